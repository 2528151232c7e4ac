theorem ow_91_0 {a0 : Int} (h0 : ((0 ≤ (a0 : Int)) ∧ (a0 ≤ (10 : Int)))) : ((-2147483648) ≤ (a0 : Int)) := by omega
theorem ow_91_1 {a0 : Int} (h0 : ((0 ≤ (a0 : Int)) ∧ (a0 ≤ (10 : Int)))) : (a0 ≤ (2147483647 : Int)) := by omega
theorem ow_91_2 : ((-1) ≤ ((-1) : Int)) := by omega
theorem ow_91_3 : ((-1) ≤ (9999 : Int)) := by omega
theorem ow_91_4 {a0 : Int} (h0 : (((-2147483648) ≤ (a0 : Int)) ∧ (a0 ≤ (2147483647 : Int)))) : ((-2147483648) ≤ (a0 : Int)) := by omega
theorem ow_91_5 {a0 : Int} (h0 : (((-2147483648) ≤ (a0 : Int)) ∧ (a0 ≤ (2147483647 : Int)))) : (a0 ≤ (2147483647 : Int)) := by omega
theorem ow_91_6 {a0 a1 a2 a3 a4 : Int} (h0 : ((0 ≤ (a0 : Int)) ∧ ((a0 ≤ (1 : Int)) ∧ ((a0 = (1 : Int)) → ((0 ≤ (a1 : Int)) ∧ ((a1 ≤ (999 : Int)) ∧ ((0 ≤ (a2 : Int)) ∧ ((a2 ≤ (99 : Int)) ∧ (((-99) ≤ (a3 : Int)) ∧ ((a3 ≤ (99 : Int)) ∧ (((a1 % 10) ≤ (8 : Int)) ∧ ((((a1 / 10) % 10) ≤ (8 : Int)) ∧ (((a1 % 10) < (a4 : Int)) ∧ (((a1 / 10) % 10) < (a4 : Int))))))))))))))) : ((-2147483648) ≤ (a0 : Int)) := by omega
theorem ow_91_7 {a0 a1 a2 a3 a4 : Int} (h0 : ((0 ≤ (a0 : Int)) ∧ ((a0 ≤ (1 : Int)) ∧ ((a0 = (1 : Int)) → ((0 ≤ (a1 : Int)) ∧ ((a1 ≤ (999 : Int)) ∧ ((0 ≤ (a2 : Int)) ∧ ((a2 ≤ (99 : Int)) ∧ (((-99) ≤ (a3 : Int)) ∧ ((a3 ≤ (99 : Int)) ∧ (((a1 % 10) ≤ (8 : Int)) ∧ ((((a1 / 10) % 10) ≤ (8 : Int)) ∧ (((a1 % 10) < (a4 : Int)) ∧ (((a1 / 10) % 10) < (a4 : Int))))))))))))))) : (a0 ≤ (2147483647 : Int)) := by omega
theorem ow_91_8 {a0 a1 : Int} (h0 : ((0 ≤ (a0 : Int)) ∧ ((a0 ≤ (1 : Int)) ∧ ((a0 = (1 : Int)) → ((0 ≤ (a1 : Int)) ∧ (a1 ≤ (1 : Int))))))) : ((-2147483648) ≤ (a0 : Int)) := by omega
theorem ow_91_9 {a0 a1 : Int} (h0 : ((0 ≤ (a0 : Int)) ∧ ((a0 ≤ (1 : Int)) ∧ ((a0 = (1 : Int)) → ((0 ≤ (a1 : Int)) ∧ (a1 ≤ (1 : Int))))))) : (a0 ≤ (2147483647 : Int)) := by omega
theorem ow_91_10 {a0 a1 a2 a3 a4 : Int} (h0 : ((0 ≤ (a0 : Int)) ∧ ((a0 ≤ (1 : Int)) ∧ ((a0 = (1 : Int)) → ((0 ≤ (a1 : Int)) ∧ ((a1 ≤ (999 : Int)) ∧ ((0 ≤ (a2 : Int)) ∧ ((a2 ≤ (99 : Int)) ∧ (((-99) ≤ (a3 : Int)) ∧ ((a3 ≤ (99 : Int)) ∧ (((a1 % 10) ≤ (8 : Int)) ∧ ((((a1 / 10) % 10) ≤ (8 : Int)) ∧ (((a1 % 10) < (a4 : Int)) ∧ (((a1 / 10) % 10) < (a4 : Int))))))))))))))) (h1 : ¬((a0 = (0 : Int)))) : (0 ≤ (a1 : Int)) := by omega
theorem ow_91_11 {a0 a1 a2 a3 a4 : Int} (h0 : ((0 ≤ (a0 : Int)) ∧ ((a0 ≤ (1 : Int)) ∧ ((a0 = (1 : Int)) → ((0 ≤ (a1 : Int)) ∧ ((a1 ≤ (999 : Int)) ∧ ((0 ≤ (a2 : Int)) ∧ ((a2 ≤ (99 : Int)) ∧ (((-99) ≤ (a3 : Int)) ∧ ((a3 ≤ (99 : Int)) ∧ (((a1 % 10) ≤ (8 : Int)) ∧ ((((a1 / 10) % 10) ≤ (8 : Int)) ∧ (((a1 % 10) < (a4 : Int)) ∧ (((a1 / 10) % 10) < (a4 : Int))))))))))))))) (h1 : ¬((a0 = (0 : Int)))) : (a1 ≤ (999 : Int)) := by omega
theorem ow_91_12 {a0 a1 a2 a3 a4 : Int} (h0 : ((0 ≤ (a0 : Int)) ∧ ((a0 ≤ (1 : Int)) ∧ ((a0 = (1 : Int)) → ((0 ≤ (a1 : Int)) ∧ ((a1 ≤ (999 : Int)) ∧ ((0 ≤ (a2 : Int)) ∧ ((a2 ≤ (99 : Int)) ∧ (((-99) ≤ (a3 : Int)) ∧ ((a3 ≤ (99 : Int)) ∧ (((a1 % 10) ≤ (8 : Int)) ∧ ((((a1 / 10) % 10) ≤ (8 : Int)) ∧ (((a1 % 10) < (a4 : Int)) ∧ (((a1 / 10) % 10) < (a4 : Int))))))))))))))) (h1 : ¬((a0 = (0 : Int)))) : (0 ≤ (a2 : Int)) := by omega
theorem ow_91_13 {a0 a1 a2 a3 a4 : Int} (h0 : ((0 ≤ (a0 : Int)) ∧ ((a0 ≤ (1 : Int)) ∧ ((a0 = (1 : Int)) → ((0 ≤ (a1 : Int)) ∧ ((a1 ≤ (999 : Int)) ∧ ((0 ≤ (a2 : Int)) ∧ ((a2 ≤ (99 : Int)) ∧ (((-99) ≤ (a3 : Int)) ∧ ((a3 ≤ (99 : Int)) ∧ (((a1 % 10) ≤ (8 : Int)) ∧ ((((a1 / 10) % 10) ≤ (8 : Int)) ∧ (((a1 % 10) < (a4 : Int)) ∧ (((a1 / 10) % 10) < (a4 : Int))))))))))))))) (h1 : ¬((a0 = (0 : Int)))) : (a2 ≤ (99 : Int)) := by omega
theorem ow_91_14 {a0 a1 a2 a3 a4 : Int} (h0 : ((0 ≤ (a0 : Int)) ∧ ((a0 ≤ (1 : Int)) ∧ ((a0 = (1 : Int)) → ((0 ≤ (a1 : Int)) ∧ ((a1 ≤ (999 : Int)) ∧ ((0 ≤ (a2 : Int)) ∧ ((a2 ≤ (99 : Int)) ∧ (((-99) ≤ (a3 : Int)) ∧ ((a3 ≤ (99 : Int)) ∧ (((a1 % 10) ≤ (8 : Int)) ∧ ((((a1 / 10) % 10) ≤ (8 : Int)) ∧ (((a1 % 10) < (a4 : Int)) ∧ (((a1 / 10) % 10) < (a4 : Int))))))))))))))) (h1 : ¬((a0 = (0 : Int)))) : ((-99) ≤ (a3 : Int)) := by omega
theorem ow_91_15 {a0 a1 a2 a3 a4 : Int} (h0 : ((0 ≤ (a0 : Int)) ∧ ((a0 ≤ (1 : Int)) ∧ ((a0 = (1 : Int)) → ((0 ≤ (a1 : Int)) ∧ ((a1 ≤ (999 : Int)) ∧ ((0 ≤ (a2 : Int)) ∧ ((a2 ≤ (99 : Int)) ∧ (((-99) ≤ (a3 : Int)) ∧ ((a3 ≤ (99 : Int)) ∧ (((a1 % 10) ≤ (8 : Int)) ∧ ((((a1 / 10) % 10) ≤ (8 : Int)) ∧ (((a1 % 10) < (a4 : Int)) ∧ (((a1 / 10) % 10) < (a4 : Int))))))))))))))) (h1 : ¬((a0 = (0 : Int)))) : (a3 ≤ (99 : Int)) := by omega
theorem ow_91_16 {a0 a1 a2 a3 a4 : Int} (h0 : ((0 ≤ (a0 : Int)) ∧ ((a0 ≤ (1 : Int)) ∧ ((a0 = (1 : Int)) → ((0 ≤ (a1 : Int)) ∧ ((a1 ≤ (999 : Int)) ∧ ((0 ≤ (a2 : Int)) ∧ ((a2 ≤ (99 : Int)) ∧ (((-99) ≤ (a3 : Int)) ∧ ((a3 ≤ (99 : Int)) ∧ (((a1 % 10) ≤ (8 : Int)) ∧ ((((a1 / 10) % 10) ≤ (8 : Int)) ∧ (((a1 % 10) < (a4 : Int)) ∧ (((a1 / 10) % 10) < (a4 : Int))))))))))))))) (h1 : ¬((a0 = (0 : Int)))) : (((a1 % 10) ≤ (8 : Int)) ∧ (((a1 / 10) % 10) ≤ (8 : Int))) := by omega
theorem ow_91_17 {a0 a1 a2 a3 a4 : Int} (h0 : ((0 ≤ (a0 : Int)) ∧ ((a0 ≤ (1 : Int)) ∧ ((a0 = (1 : Int)) → ((0 ≤ (a1 : Int)) ∧ ((a1 ≤ (999 : Int)) ∧ ((0 ≤ (a2 : Int)) ∧ ((a2 ≤ (99 : Int)) ∧ (((-99) ≤ (a3 : Int)) ∧ ((a3 ≤ (99 : Int)) ∧ (((a1 % 10) ≤ (8 : Int)) ∧ ((((a1 / 10) % 10) ≤ (8 : Int)) ∧ (((a1 % 10) < (a4 : Int)) ∧ (((a1 / 10) % 10) < (a4 : Int))))))))))))))) (h1 : ¬((a0 = (0 : Int)))) : ((a1 % 10) < (a4 : Int)) := by omega
theorem ow_91_18 {a0 a1 a2 a3 a4 : Int} (h0 : ((0 ≤ (a0 : Int)) ∧ ((a0 ≤ (1 : Int)) ∧ ((a0 = (1 : Int)) → ((0 ≤ (a1 : Int)) ∧ ((a1 ≤ (999 : Int)) ∧ ((0 ≤ (a2 : Int)) ∧ ((a2 ≤ (99 : Int)) ∧ (((-99) ≤ (a3 : Int)) ∧ ((a3 ≤ (99 : Int)) ∧ (((a1 % 10) ≤ (8 : Int)) ∧ ((((a1 / 10) % 10) ≤ (8 : Int)) ∧ (((a1 % 10) < (a4 : Int)) ∧ (((a1 / 10) % 10) < (a4 : Int))))))))))))))) (h1 : ¬((a0 = (0 : Int)))) : (((a1 / 10) % 10) < (a4 : Int)) := by omega
theorem ow_91_19 {a0 : Int} (h0 : ((0 ≤ (a0 : Int)) ∧ (a0 ≤ (500 : Int)))) : ((-2147483648) ≤ (a0 : Int)) := by omega
theorem ow_91_20 {a0 : Int} (h0 : ((0 ≤ (a0 : Int)) ∧ (a0 ≤ (500 : Int)))) : (a0 ≤ (2147483647 : Int)) := by omega
theorem ow_91_21 {a0 : Int} (h0 : ((0 ≤ (a0 : Int)) ∧ (a0 ≤ (500 : Int)))) : (((2 * a0) : Int).toNat < (1200 : Nat)) := by omega
theorem ow_91_22 {a0 : Int} (h0 : ((0 ≤ (a0 : Int)) ∧ (a0 ≤ (500 : Int)))) : (0 ≤ ((2 * a0) : Int)) := by omega
theorem ow_91_23 {a0 : Int} (h0 : ((0 ≤ (a0 : Int)) ∧ (a0 ≤ (500 : Int)))) : ((2 * a0) < (((1200 : Nat) : Int) : Int)) := by omega
theorem ow_91_24 {a0 : Int} (h0 : ((0 ≤ (a0 : Int)) ∧ (a0 ≤ (500 : Int)))) : ((((2 * a0) + 1) : Int).toNat < (1200 : Nat)) := by omega
theorem ow_91_25 {a0 : Int} (h0 : ((0 ≤ (a0 : Int)) ∧ (a0 ≤ (500 : Int)))) : (0 ≤ (((2 * a0) + 1) : Int)) := by omega
theorem ow_91_26 {a0 : Int} (h0 : ((0 ≤ (a0 : Int)) ∧ (a0 ≤ (500 : Int)))) : (((2 * a0) + 1) < (((1200 : Nat) : Int) : Int)) := by omega
theorem ow_91_27 {a0 : Int} : (((2 * a0) : Int).toNat = ((2 * (a0 : Int).toNat) : Nat)) := by omega
theorem ow_91_28 {a0 : Int} (h0 : ((0 ≤ (a0 : Int)) ∧ (a0 ≤ (500 : Int)))) : ((((2 * a0) + 1) : Int).toNat = (((2 * (a0 : Int).toNat) + 1) : Nat)) := by omega
theorem ow_91_29 {a0 : Int} {k1 : Nat} (h0 : (a0 ≤ (((k1 : Nat) : Int) : Int))) : ((a0 : Int).toNat ≤ (k1 : Nat)) := by omega
theorem ow_91_30 {a0 a1 a2 : Int} (h0 : (a0 = (a1 : Int))) (h1 : (a0 < (a2 : Int))) : (a1 < (a2 : Int)) := by omega
theorem ow_91_31 {a0 : Int} (h0 : ((0 ≤ (a0 : Int)) ∧ (a0 ≤ (7 : Int)))) : ((-2147483648) ≤ (a0 : Int)) := by omega
theorem ow_91_32 {a0 : Int} (h0 : ((0 ≤ (a0 : Int)) ∧ (a0 ≤ (7 : Int)))) : (a0 ≤ (2147483647 : Int)) := by omega
theorem ow_91_33 {a0 : Int} (h0 : (a0 = (0 : Int))) : (a0 ≤ (2147483647 : Int)) := by omega
theorem ow_91_34 {a0 : Int} (h0 : ((0 ≤ (a0 : Int)) ∧ (a0 ≤ (7 : Int)))) (h1 : (a0 = (0 : Int))) (h2 : ¬((a0 = (0 : Int)))) : False := by omega
theorem ow_91_35 {a0 : Int} (h0 : (((-2) ≤ (a0 : Int)) ∧ (a0 ≤ (500 : Int)))) : (a0 < (((600 : Nat) : Int) : Int)) := by omega
theorem ow_91_36 {a1 a3 : Int} {k0 k2 : Nat} (h0 : (k0 ≤ (500 : Nat))) (h1 : (((500 - a1) : Int).toNat = (k2 : Nat))) (h2 : ((a1 : Int).toNat < (k0 : Nat))) (h3 : ((a1 + 1) = (a3 : Int))) : (((500 - a3) : Int).toNat < (k2 : Nat)) := by omega
theorem ow_91_37 {a0 : Int} (h0 : ((0 ≤ (a0 : Int)) ∧ (a0 ≤ (500 : Int)))) : (0 ≤ (a0 : Int)) := by omega
theorem ow_91_38 {a0 a1 : Int} (h0 : ((0 ≤ (a0 : Int)) ∧ (a0 ≤ (10 : Int)))) (h1 : (a1 < (a0 : Int))) : (a1 ≤ (500 : Int)) := by omega
theorem ow_91_39 {a0 a1 : Int} (h0 : (((-2) ≤ (a0 : Int)) ∧ (a0 ≤ (500 : Int)))) (h1 : ((a0 + 1) = (a1 : Int))) : ((-2) ≤ (a1 : Int)) := by omega
theorem ow_91_40 {a1 a2 a3 a4 : Int} {k0 : Nat} (h0 : (k0 ≤ (500 : Nat))) (h1 : (a1 = (a2 : Int))) (h2 : ((a3 : Int).toNat < (k0 : Nat))) (h3 : (a2 ≤ ((((a3 : Int).toNat : Nat) : Int) : Int))) (h4 : ((a1 + 1) = (a4 : Int))) : (a4 ≤ (500 : Int)) := by omega
theorem ow_91_41 {a0 : Int} (h0 : ((0 ≤ (a0 : Int)) ∧ (a0 ≤ (1 : Int)))) : (0 ≤ (a0 : Int)) := by omega
theorem ow_91_42 {a0 : Int} (h0 : ((0 ≤ (a0 : Int)) ∧ (a0 ≤ (1 : Int)))) : (a0 ≤ (1 : Int)) := by omega
theorem ow_91_43 {a0 a1 : Int} (h0 : ((0 ≤ (a0 : Int)) ∧ (a0 ≤ (500 : Int)))) (h1 : ((a0 + 1) = (a1 : Int))) : (0 ≤ (a1 : Int)) := by omega
theorem ow_91_44 {a1 a2 : Int} {k0 : Nat} (h0 : (k0 ≤ (500 : Nat))) (h1 : ((a1 : Int).toNat < (k0 : Nat))) (h2 : ((a1 + 1) = (a2 : Int))) : (a2 ≤ (500 : Int)) := by omega
theorem ow_91_45 {a0 : Int} (h0 : ((0 ≤ (a0 : Int)) ∧ (a0 ≤ (9999 : Int)))) : ((-2147483648) ≤ (a0 : Int)) := by omega
theorem ow_91_46 {a0 : Int} (h0 : ((0 ≤ (a0 : Int)) ∧ (a0 ≤ (9999 : Int)))) : (a0 ≤ (2147483647 : Int)) := by omega
theorem ow_91_47 {a0 a1 : Int} (h0 : ((0 ≤ (a0 : Int)) ∧ (a0 ≤ (500 : Int)))) (h1 : ((a0 + 1) = (a1 : Int))) : ((a1 : Int).toNat = (((a0 : Int).toNat + 1) : Nat)) := by omega
theorem ow_91_48 {a0 a2 : Int} {k1 : Nat} (h0 : ((a0 : Int).toNat < (k1 : Nat))) (h1 : ((a0 + 1) = (a2 : Int))) : (a2 ≤ (((k1 : Nat) : Int) : Int)) := by omega
theorem ow_91_49 {a0 : Int} (h0 : ((0 ≤ (a0 : Int)) ∧ (a0 ≤ (7 : Int)))) (h1 : ¬((a0 = (0 : Int)))) (h2 : ¬((a0 = (1 : Int)))) : (2 ≤ (a0 : Int)) := by omega
theorem ow_91_50 {a0 : Int} (h0 : ((0 ≤ (a0 : Int)) ∧ (a0 ≤ (7 : Int)))) (h1 : ¬((a0 = (7 : Int)))) : (a0 ≤ (6 : Int)) := by omega
theorem ow_91_51 {a0 : Int} (h0 : (((-2) ≤ (a0 : Int)) ∧ (a0 ≤ (500 : Int)))) : (((a0 - 2) : Int).toNat < (600 : Nat)) := by omega
theorem ow_91_52 {a0 : Int} (h0 : (((-2) ≤ (a0 : Int)) ∧ (a0 ≤ (500 : Int)))) : ((a0 - 2) < (((600 : Nat) : Int) : Int)) := by omega
theorem ow_91_53 {a0 : Int} (h0 : (((-2) ≤ (a0 : Int)) ∧ (a0 ≤ (500 : Int)))) : (((a0 - 1) : Int).toNat < (600 : Nat)) := by omega
theorem ow_91_54 {a0 : Int} (h0 : (((-2) ≤ (a0 : Int)) ∧ (a0 ≤ (500 : Int)))) : ((a0 - 1) < (((600 : Nat) : Int) : Int)) := by omega
theorem ow_91_55 {a0 : Int} (h0 : (a0 = (5 : Int))) : ((-2147483648) ≤ (a0 : Int)) := by omega
theorem ow_91_56 {a0 : Int} (h0 : (a0 = (5 : Int))) : (a0 ≤ (2147483647 : Int)) := by omega
theorem ow_91_57 {a0 : Int} (h0 : (a0 = (5 : Int))) (h1 : ¬((a0 = (5 : Int)))) : False := by omega
theorem ow_91_58 {a0 : Int} (h0 : ((0 ≤ (a0 : Int)) ∧ (a0 ≤ (1 : Int)))) : ((-2147483648) ≤ (a0 : Int)) := by omega
theorem ow_91_59 {a0 : Int} (h0 : ((0 ≤ (a0 : Int)) ∧ (a0 ≤ (1 : Int)))) : (a0 ≤ (2147483647 : Int)) := by omega
theorem ow_91_60 {a0 : Int} (h0 : (((-2) ≤ (a0 : Int)) ∧ (a0 ≤ (500 : Int)))) : ((a0 - 2) ≤ (500 : Int)) := by omega
theorem ow_91_61 {a0 : Int} (h0 : (a0 = (5 : Int))) (h1 : (a0 = (4 : Int))) : False := by omega
theorem ow_91_62 {a0 : Int} (h0 : (a0 = (5 : Int))) (h1 : (a0 = (3 : Int))) : False := by omega
theorem ow_91_63 {a0 : Int} (h0 : (a0 = (5 : Int))) (h1 : (a0 = (2 : Int))) : False := by omega
theorem ow_91_64 {a0 : Int} (h0 : (a0 = (5 : Int))) (h1 : (a0 = (6 : Int))) : False := by omega
theorem ow_91_65 {a0 : Int} (h0 : ((0 ≤ (a0 : Int)) ∧ (a0 ≤ (7 : Int)))) (h1 : ¬((a0 = (7 : Int)))) (h2 : ¬((a0 = (0 : Int)))) (h3 : ¬((a0 = (1 : Int)))) (h4 : ¬((a0 = (6 : Int)))) (h5 : ¬((a0 = (5 : Int)))) (h6 : ¬((a0 = (2 : Int)))) (h7 : ¬((a0 = (3 : Int)))) (h8 : ¬((a0 = (4 : Int)))) : False := by omega
theorem ow_91_66 {a0 : Int} (h0 : (((-4611686016279904256) ≤ (a0 : Int)) ∧ (a0 ≤ (4611686018427387904 : Int)))) : ((-9223372036854775808) ≤ (a0 : Int)) := by omega
theorem ow_91_67 {a0 : Int} (h0 : (((-4611686016279904256) ≤ (a0 : Int)) ∧ (a0 ≤ (4611686018427387904 : Int)))) : (a0 ≤ (9223372036854775807 : Int)) := by omega
theorem ow_91_68 {a0 : Int} (h0 : (((-2) ≤ (a0 : Int)) ∧ (a0 ≤ (500 : Int)))) : (((a0 - 1) - 1) < (((600 : Nat) : Int) : Int)) := by omega
theorem ow_91_69 {a0 : Int} (h0 : (((-2) ≤ (a0 : Int)) ∧ (a0 ≤ (500 : Int)))) : ((a0 - 1) ≤ (500 : Int)) := by omega
theorem ow_91_70 {a0 : Int} (h0 : (((-1000000) ≤ (a0 : Int)) ∧ (a0 ≤ (1000000 : Int)))) : ((-2147483648) ≤ (a0 : Int)) := by omega
theorem ow_91_71 {a0 : Int} (h0 : (((-1000000) ≤ (a0 : Int)) ∧ (a0 ≤ (1000000 : Int)))) : (a0 ≤ (2147483647 : Int)) := by omega
theorem ow_91_72 {a0 a1 : Int} (h0 : (((-2147483648) ≤ (a0 : Int)) ∧ (a0 ≤ (2147483647 : Int)))) (h1 : (((-2147483648) ≤ (a1 : Int)) ∧ (a1 ≤ (2147483647 : Int)))) : ((-9223372036854775808) ≤ ((a0 - a1) : Int)) := by omega
theorem ow_91_73 {a0 a1 : Int} (h0 : (((-2147483648) ≤ (a0 : Int)) ∧ (a0 ≤ (2147483647 : Int)))) (h1 : (((-2147483648) ≤ (a1 : Int)) ∧ (a1 ≤ (2147483647 : Int)))) : ((a0 - a1) ≤ (9223372036854775807 : Int)) := by omega
theorem ow_91_74 {a0 : Int} (h0 : (a0 = (3 : Int))) : ((-2147483648) ≤ (a0 : Int)) := by omega
theorem ow_91_75 {a0 : Int} (h0 : (a0 = (3 : Int))) : (a0 ≤ (2147483647 : Int)) := by omega
theorem ow_91_76 {a0 : Int} (h0 : (a0 = (3 : Int))) (h1 : (a0 = (4 : Int))) : False := by omega
theorem ow_91_77 {a0 a1 : Int} (h0 : (((-2147483648) ≤ (a0 : Int)) ∧ (a0 ≤ (2147483647 : Int)))) (h1 : (((-2147483648) ≤ (a1 : Int)) ∧ (a1 ≤ (2147483647 : Int)))) : ((-9223372036854775808) ≤ ((a0 + a1) : Int)) := by omega
theorem ow_91_78 {a0 a1 : Int} (h0 : (((-2147483648) ≤ (a0 : Int)) ∧ (a0 ≤ (2147483647 : Int)))) (h1 : (((-2147483648) ≤ (a1 : Int)) ∧ (a1 ≤ (2147483647 : Int)))) : ((a0 + a1) ≤ (9223372036854775807 : Int)) := by omega
theorem ow_91_79 {a0 : Int} (h0 : (a0 = (2 : Int))) : ((-2147483648) ≤ (a0 : Int)) := by omega
theorem ow_91_80 {a0 : Int} (h0 : (a0 = (2 : Int))) : (a0 ≤ (2147483647 : Int)) := by omega
theorem ow_91_81 {a0 : Int} (h0 : (a0 = (2 : Int))) (h1 : (a0 = (4 : Int))) : False := by omega
theorem ow_91_82 {a0 : Int} (h0 : (a0 = (2 : Int))) (h1 : (a0 = (3 : Int))) : False := by omega
theorem ow_91_83 {a0 : Int} (h0 : ¬((a0 = (6 : Int)))) (h1 : (a0 = (6 : Int))) : False := by omega
theorem ow_91_84 {a0 a1 : Int} (h0 : ¬((a0 = (5 : Int)))) (h1 : (a0 = (5 : Int))) : ((-2) ≤ ((a1 - 1) : Int)) := by omega
theorem ow_91_85 {a0 a1 a2 : Int} (h0 : ¬((a0 = (5 : Int)))) (h1 : (a0 = (5 : Int))) : ((a1 : Int).toNat = (((a2 : Int).toNat + 1) : Nat)) := by omega
theorem ow_91_86 {a0 : Int} (h0 : ¬((a0 = (5 : Int)))) (h1 : (a0 = (5 : Int))) : (a0 = (7 : Int)) := by omega
theorem ow_91_87 {a0 a1 a2 : Int} (h0 : ¬((a0 = (5 : Int)))) (h1 : (a0 = (5 : Int))) : (a1 = (a2 : Int)) := by omega
theorem ow_91_88 {a0 a1 a2 : Int} (h0 : ¬((a0 = (5 : Int)))) (h1 : (a0 = (5 : Int))) : ((a1 - 1) = (a2 : Int)) := by omega
theorem ow_91_89 {a0 : Int} (h0 : (a0 = (6 : Int))) : ((-2147483648) ≤ (a0 : Int)) := by omega
theorem ow_91_90 {a0 : Int} (h0 : (a0 = (6 : Int))) : (a0 ≤ (2147483647 : Int)) := by omega
theorem ow_91_91 {a0 : Int} (h0 : (a0 = (6 : Int))) (h1 : ¬((a0 = (6 : Int)))) : False := by omega
theorem ow_91_92 {a0 : Int} (h0 : (a0 = (6 : Int))) (h1 : (a0 = (4 : Int))) : False := by omega
theorem ow_91_93 {a0 : Int} (h0 : (a0 = (6 : Int))) (h1 : (a0 = (3 : Int))) : False := by omega
theorem ow_91_94 {a0 : Int} (h0 : (a0 = (6 : Int))) (h1 : (a0 = (2 : Int))) : False := by omega
theorem ow_91_95 {a0 : Int} (h0 : (a0 = (6 : Int))) (h1 : (a0 = (5 : Int))) : False := by omega
theorem ow_91_96 {a0 : Int} (h0 : (a0 = (1 : Int))) : ((-2147483648) ≤ (a0 : Int)) := by omega
theorem ow_91_97 {a0 : Int} (h0 : (a0 = (1 : Int))) : (a0 ≤ (2147483647 : Int)) := by omega
theorem ow_91_98 {a0 : Int} (h0 : (a0 = (1 : Int))) : (a0 = (1 : Int)) := by omega
theorem ow_91_99 {a0 : Int} (h0 : ((0 ≤ (a0 : Int)) ∧ (a0 ≤ (6 : Int)))) : ((a0 : Int).toNat < (7 : Nat)) := by omega
theorem ow_91_100 {a0 : Int} (h0 : ((0 ≤ (a0 : Int)) ∧ (a0 ≤ (9999 : Int)))) : (0 ≤ (a0 : Int)) := by omega
theorem ow_91_101 {a0 : Int} (h0 : ((0 ≤ (a0 : Int)) ∧ (a0 ≤ (6 : Int)))) : (a0 < (((7 : Nat) : Int) : Int)) := by omega
theorem ow_91_102 {a0 : Int} (h0 : (a0 = (1 : Int))) (h1 : (a0 = (0 : Int))) : False := by omega
theorem ow_91_103 {a0 a1 a2 : Int} (h0 : ((0 ≤ (a0 : Int)) ∧ (a0 ≤ (10 : Int)))) (h1 : (a1 < (a0 : Int))) (h2 : ((a1 + 1) = (a2 : Int))) : (a2 ≤ (500 : Int)) := by omega
theorem ow_91_104 {a0 : Int} (h0 : ((0 ≤ (a0 : Int)) ∧ (a0 ≤ (7 : Int)))) (h1 : (a0 = (7 : Int))) : (a0 = (7 : Int)) := by omega
theorem ow_91_105 {a0 : Int} (h0 : ((0 ≤ (a0 : Int)) ∧ (a0 ≤ (500 : Int)))) : ((-1) ≤ (a0 : Int)) := by omega
theorem ow_91_106 {a0 : Int} (h0 : ((0 ≤ (a0 : Int)) ∧ (a0 ≤ (500 : Int)))) : (a0 ≤ (9999 : Int)) := by omega
theorem ow_91_107 {a0 : Int} (h0 : ((0 ≤ (a0 : Int)) ∧ (a0 ≤ (9999 : Int)))) : ((-1) ≤ (a0 : Int)) := by omega
theorem ow_91_108 {a0 : Int} (h0 : ((0 ≤ (a0 : Int)) ∧ (a0 ≤ (9999 : Int)))) : (a0 ≤ (9999 : Int)) := by omega
theorem ow_91_109 {k0 : Nat} : (0 ≤ (((k0 : Nat) : Int) : Int)) := by omega
noncomputable def F_X12_called (a1 a2 a3 a4 : Int) (V0 : pm_M) : Int × pm_M := pf_let (V0 90 35) fun y1 => pf_let (V0 90 16) fun y4 => (if y1 = 0 then (((-1), V0)) else (pf_call (F_X12_isTrial a1 a2 a3 V0) fun y11 _ => (if y11 = 0 then (((-1), V0)) else (pf_call (F_X12_in a4 0 1 V0) fun y18 _ => (if ¬ (y18 = 0) then (pf_call (F_X12_tellsNames a1 a2 a3 V0) fun _ V23 => pf_val ((0 : Int), V0) (fun (q : Int × Int × Int × Int × pm_M) => match q with | (x34, x36, x38, x40, V42) => ((if y1 ≤ x34 then ((.inr ((-1), V42))) else (pf_let (V42 108 ((2 * x40) : Int).toNat) fun y62 => pf_let (V42 108 (((2 * x40) + 1) : Int).toNat) fun y65 => (if ¬ (y62 = 7) then ((if y62 = 0 then ((if ¬ (y62 = 0) then ((.inr ((0 : Int), V0))) else (pf_let (x36 + 1) fun x72 => pf_let (x40 + 1) fun x74 => (.inl (x34, x72, x38, x74, (pm_up V42 117 (x36 : Int).toNat y65)))))) else ((if ¬ (y62 = 1) then (pf_let (V42 117 ((x36 - 2) : Int).toNat) fun y78 => pf_let (V42 117 ((x36 - 1) : Int).toNat) fun y81 => (if y62 = 5 then ((if ¬ (y62 = 5) then ((.inr ((0 : Int), V0))) else ((if x38 = 0 then ((if ¬ (y62 = 6) then ((if ¬ (y62 = 2) then ((if ¬ (y62 = 3) then ((if ¬ (y62 = 4) then (pf_let (x40 + 1) fun x91 => (.inl (x34, (x36 - 2), 0, x91, V42))) else ((.inr ((0 : Int), V0))))) else ((.inr ((0 : Int), V0))))) else ((.inr ((0 : Int), V0))))) else ((.inr ((0 : Int), V0))))) else ((if y81 ≤ y78 then ((if ¬ (y62 = 6) then ((if ¬ (y62 = 2) then ((if ¬ (y62 = 3) then ((if ¬ (y62 = 4) then (pf_let (x40 + 1) fun x98 => (.inl (x34, (x36 - 2), 0, x98, V42))) else ((.inr ((0 : Int), V0))))) else ((.inr ((0 : Int), V0))))) else ((.inr ((0 : Int), V0))))) else ((.inr ((0 : Int), V0))))) else ((if ¬ (y62 = 6) then ((if ¬ (y62 = 2) then ((if ¬ (y62 = 3) then ((if ¬ (y62 = 4) then (pf_let (x40 + 1) fun x104 => (.inl (x34, (x36 - 2), 1, x104, V42))) else ((.inr ((0 : Int), V0))))) else ((.inr ((0 : Int), V0))))) else ((.inr ((0 : Int), V0))))) else ((.inr ((0 : Int), V0))))))))))) else ((if ¬ (y62 = 6) then ((if ¬ (y62 = 5) then ((if ¬ (y62 = 6) then ((if ¬ (y62 = 2) then ((if ¬ (y62 = 3) then ((if ¬ (y62 = 4) then ((.inr ((0 : Int), V0))) else (pf_let ((y78 * y81)) fun y112 => pf_call (F_X12_brought y112 V42) fun y117 _ => pf_let (x40 + 1) fun x120 => (.inl (x34, (x36 - 1), x38, x120, (pm_up V42 117 (((x36 - 1) - 1) : Int).toNat y117)))))) else (pf_call (F_X12_brought (y78 - y81) V42) fun y125 _ => (if ¬ (y62 = 4) then (pf_let (x40 + 1) fun x129 => (.inl (x34, (x36 - 1), x38, x129, (pm_up V42 117 (((x36 - 1) - 1) : Int).toNat y125)))) else ((.inr ((0 : Int), V0))))))) else (pf_call (F_X12_brought (y78 + y81) V42) fun y134 _ => (if ¬ (y62 = 3) then ((if ¬ (y62 = 4) then (pf_let (x40 + 1) fun x139 => (.inl (x34, (x36 - 1), x38, x139, (pm_up V42 117 (((x36 - 1) - 1) : Int).toNat y134)))) else ((.inr ((0 : Int), V0))))) else ((.inr ((0 : Int), V0))))))) else ((.inr ((0 : Int), V0))))) else ((if x38 = 0 then ((if ¬ (y62 = 6) then ((if ¬ (y62 = 2) then ((if ¬ (y62 = 3) then ((if ¬ (y62 = 4) then (pf_let (x40 + 1) fun x146 => (.inl (x34, (x36 - 1), 0, x146, V42))) else ((.inr ((0 : Int), V0))))) else ((.inr ((0 : Int), V0))))) else ((.inr ((0 : Int), V0))))) else ((.inr ((0 : Int), V0))))) else ((if y81 ≤ y78 then ((if ¬ (y62 = 6) then ((if ¬ (y62 = 2) then ((if ¬ (y62 = 3) then ((if ¬ (y62 = 4) then (pf_let (x40 + 1) fun x153 => (.inl (x34, (x36 - 1), 0, x153, V42))) else ((.inr ((0 : Int), V0))))) else ((.inr ((0 : Int), V0))))) else ((.inr ((0 : Int), V0))))) else ((.inr ((0 : Int), V0))))) else ((if ¬ (y62 = 6) then ((if ¬ (y62 = 2) then ((if ¬ (y62 = 3) then ((if ¬ (y62 = 4) then (pf_let (x40 + 1) fun x159 => (.inl (x34, (x36 - 1), 1, x159, V42))) else ((.inr ((0 : Int), V0))))) else ((.inr ((0 : Int), V0))))) else ((.inr ((0 : Int), V0))))) else ((.inr ((0 : Int), V0))))))))))) else ((if ¬ (y62 = 5) then ((if ¬ (y62 = 6) then ((.inr ((0 : Int), V0))) else ((if x38 = 0 then ((if ¬ (y62 = 2) then ((if ¬ (y62 = 3) then ((if ¬ (y62 = 4) then (pf_let (x40 + 1) fun x167 => (.inl (x34, (x36 - 2), 0, x167, V42))) else ((.inr ((0 : Int), V0))))) else ((.inr ((0 : Int), V0))))) else ((.inr ((0 : Int), V0))))) else ((if ¬ (y78 = y81) then ((if ¬ (y62 = 2) then ((if ¬ (y62 = 3) then ((if ¬ (y62 = 4) then (pf_let (x40 + 1) fun x173 => (.inl (x34, (x36 - 2), 0, x173, V42))) else ((.inr ((0 : Int), V0))))) else ((.inr ((0 : Int), V0))))) else ((.inr ((0 : Int), V0))))) else ((if ¬ (y62 = 2) then ((if ¬ (y62 = 3) then ((if ¬ (y62 = 4) then (pf_let (x40 + 1) fun x178 => (.inl (x34, (x36 - 2), 1, x178, V42))) else ((.inr ((0 : Int), V0))))) else ((.inr ((0 : Int), V0))))) else ((.inr ((0 : Int), V0))))))))))) else ((.inr ((0 : Int), V0))))))))) else ((if ¬ (y62 = 0) then (pf_let (V42 116 (y65 : Int).toNat) fun y183 => pf_let (x36 + 1) fun x186 => pf_let (x40 + 1) fun x188 => (.inl (x34, x186, x38, x188, (pm_up V42 117 (x36 : Int).toNat y183)))) else ((.inr ((0 : Int), V0))))))))) else ((if x38 = 0 then (pf_let (x34 + 1) fun x191 => pf_let (x40 + 1) fun x193 => (.inl (x191, 0, 1, x193, V42))) else ((if ¬ (a4 = 0) then ((.inr (x34, V42))) else ((.inr (y65, V42)))))))))))) (0, 0, 1, 0, V23)) else (((-1), V0)))))))
theorem F_X12_called_eq (a1 a2 a3 a4 : Int) (V0 : pm_M) : F_X12_called a1 a2 a3 a4 V0 = pf_let (V0 90 35) fun y1 => pf_let (V0 90 16) fun y4 => (if y1 = 0 then (((-1), V0)) else (pf_call (F_X12_isTrial a1 a2 a3 V0) fun y11 _ => (if y11 = 0 then (((-1), V0)) else (pf_call (F_X12_in a4 0 1 V0) fun y18 _ => (if ¬ (y18 = 0) then (pf_call (F_X12_tellsNames a1 a2 a3 V0) fun _ V23 => pf_val ((0 : Int), V0) (fun (q : Int × Int × Int × Int × pm_M) => match q with | (x34, x36, x38, x40, V42) => ((if y1 ≤ x34 then ((.inr ((-1), V42))) else (pf_let (V42 108 ((2 * x40) : Int).toNat) fun y62 => pf_let (V42 108 (((2 * x40) + 1) : Int).toNat) fun y65 => (if ¬ (y62 = 7) then ((if y62 = 0 then ((if ¬ (y62 = 0) then ((.inr ((0 : Int), V0))) else (pf_let (x36 + 1) fun x72 => pf_let (x40 + 1) fun x74 => (.inl (x34, x72, x38, x74, (pm_up V42 117 (x36 : Int).toNat y65)))))) else ((if ¬ (y62 = 1) then (pf_let (V42 117 ((x36 - 2) : Int).toNat) fun y78 => pf_let (V42 117 ((x36 - 1) : Int).toNat) fun y81 => (if y62 = 5 then ((if ¬ (y62 = 5) then ((.inr ((0 : Int), V0))) else ((if x38 = 0 then ((if ¬ (y62 = 6) then ((if ¬ (y62 = 2) then ((if ¬ (y62 = 3) then ((if ¬ (y62 = 4) then (pf_let (x40 + 1) fun x91 => (.inl (x34, (x36 - 2), 0, x91, V42))) else ((.inr ((0 : Int), V0))))) else ((.inr ((0 : Int), V0))))) else ((.inr ((0 : Int), V0))))) else ((.inr ((0 : Int), V0))))) else ((if y81 ≤ y78 then ((if ¬ (y62 = 6) then ((if ¬ (y62 = 2) then ((if ¬ (y62 = 3) then ((if ¬ (y62 = 4) then (pf_let (x40 + 1) fun x98 => (.inl (x34, (x36 - 2), 0, x98, V42))) else ((.inr ((0 : Int), V0))))) else ((.inr ((0 : Int), V0))))) else ((.inr ((0 : Int), V0))))) else ((.inr ((0 : Int), V0))))) else ((if ¬ (y62 = 6) then ((if ¬ (y62 = 2) then ((if ¬ (y62 = 3) then ((if ¬ (y62 = 4) then (pf_let (x40 + 1) fun x104 => (.inl (x34, (x36 - 2), 1, x104, V42))) else ((.inr ((0 : Int), V0))))) else ((.inr ((0 : Int), V0))))) else ((.inr ((0 : Int), V0))))) else ((.inr ((0 : Int), V0))))))))))) else ((if ¬ (y62 = 6) then ((if ¬ (y62 = 5) then ((if ¬ (y62 = 6) then ((if ¬ (y62 = 2) then ((if ¬ (y62 = 3) then ((if ¬ (y62 = 4) then ((.inr ((0 : Int), V0))) else (pf_let ((y78 * y81)) fun y112 => pf_call (F_X12_brought y112 V42) fun y117 _ => pf_let (x40 + 1) fun x120 => (.inl (x34, (x36 - 1), x38, x120, (pm_up V42 117 (((x36 - 1) - 1) : Int).toNat y117)))))) else (pf_call (F_X12_brought (y78 - y81) V42) fun y125 _ => (if ¬ (y62 = 4) then (pf_let (x40 + 1) fun x129 => (.inl (x34, (x36 - 1), x38, x129, (pm_up V42 117 (((x36 - 1) - 1) : Int).toNat y125)))) else ((.inr ((0 : Int), V0))))))) else (pf_call (F_X12_brought (y78 + y81) V42) fun y134 _ => (if ¬ (y62 = 3) then ((if ¬ (y62 = 4) then (pf_let (x40 + 1) fun x139 => (.inl (x34, (x36 - 1), x38, x139, (pm_up V42 117 (((x36 - 1) - 1) : Int).toNat y134)))) else ((.inr ((0 : Int), V0))))) else ((.inr ((0 : Int), V0))))))) else ((.inr ((0 : Int), V0))))) else ((if x38 = 0 then ((if ¬ (y62 = 6) then ((if ¬ (y62 = 2) then ((if ¬ (y62 = 3) then ((if ¬ (y62 = 4) then (pf_let (x40 + 1) fun x146 => (.inl (x34, (x36 - 1), 0, x146, V42))) else ((.inr ((0 : Int), V0))))) else ((.inr ((0 : Int), V0))))) else ((.inr ((0 : Int), V0))))) else ((.inr ((0 : Int), V0))))) else ((if y81 ≤ y78 then ((if ¬ (y62 = 6) then ((if ¬ (y62 = 2) then ((if ¬ (y62 = 3) then ((if ¬ (y62 = 4) then (pf_let (x40 + 1) fun x153 => (.inl (x34, (x36 - 1), 0, x153, V42))) else ((.inr ((0 : Int), V0))))) else ((.inr ((0 : Int), V0))))) else ((.inr ((0 : Int), V0))))) else ((.inr ((0 : Int), V0))))) else ((if ¬ (y62 = 6) then ((if ¬ (y62 = 2) then ((if ¬ (y62 = 3) then ((if ¬ (y62 = 4) then (pf_let (x40 + 1) fun x159 => (.inl (x34, (x36 - 1), 1, x159, V42))) else ((.inr ((0 : Int), V0))))) else ((.inr ((0 : Int), V0))))) else ((.inr ((0 : Int), V0))))) else ((.inr ((0 : Int), V0))))))))))) else ((if ¬ (y62 = 5) then ((if ¬ (y62 = 6) then ((.inr ((0 : Int), V0))) else ((if x38 = 0 then ((if ¬ (y62 = 2) then ((if ¬ (y62 = 3) then ((if ¬ (y62 = 4) then (pf_let (x40 + 1) fun x167 => (.inl (x34, (x36 - 2), 0, x167, V42))) else ((.inr ((0 : Int), V0))))) else ((.inr ((0 : Int), V0))))) else ((.inr ((0 : Int), V0))))) else ((if ¬ (y78 = y81) then ((if ¬ (y62 = 2) then ((if ¬ (y62 = 3) then ((if ¬ (y62 = 4) then (pf_let (x40 + 1) fun x173 => (.inl (x34, (x36 - 2), 0, x173, V42))) else ((.inr ((0 : Int), V0))))) else ((.inr ((0 : Int), V0))))) else ((.inr ((0 : Int), V0))))) else ((if ¬ (y62 = 2) then ((if ¬ (y62 = 3) then ((if ¬ (y62 = 4) then (pf_let (x40 + 1) fun x178 => (.inl (x34, (x36 - 2), 1, x178, V42))) else ((.inr ((0 : Int), V0))))) else ((.inr ((0 : Int), V0))))) else ((.inr ((0 : Int), V0))))))))))) else ((.inr ((0 : Int), V0))))))))) else ((if ¬ (y62 = 0) then (pf_let (V42 116 (y65 : Int).toNat) fun y183 => pf_let (x36 + 1) fun x186 => pf_let (x40 + 1) fun x188 => (.inl (x34, x186, x38, x188, (pm_up V42 117 (x36 : Int).toNat y183)))) else ((.inr ((0 : Int), V0))))))))) else ((if x38 = 0 then (pf_let (x34 + 1) fun x191 => pf_let (x40 + 1) fun x193 => (.inl (x191, 0, 1, x193, V42))) else ((if ¬ (a4 = 0) then ((.inr (x34, V42))) else ((.inr (y65, V42)))))))))))) (0, 0, 1, 0, V23)) else (((-1), V0))))))) := rfl
set_option maxHeartbeats 4000000 in
set_option maxRecDepth 100000 in
theorem fB_X12_called (a1 a2 a3 a4 : Int) (h0 : (-2147483648) ≤ a1 ∧ a1 ≤ 2147483647) (h1 : (-2147483648) ≤ a2 ∧ a2 ≤ 2147483647) (h2 : (-2147483648) ≤ a3 ∧ a3 ≤ 2147483647) (h3 : (-2147483648) ≤ a4 ∧ a4 ≤ 2147483647) : pm_K 5 yX12_called cX12_called 13 (some .int) (fun av V => av = [(3, 90), (0, a1), (0, a2), (0, a3), (0, a4)] ∧ pm_oq pm_qB V ∧ pm_h1 V ∧ pm_h2 V ∧ pm_r1 V) (fun _ V r V' => ∃ y, r = some (0, y) ∧ ((-1) ≤ y ∧ y ≤ 9999) ∧ pm_oq pm_qB V' ∧ pm_fs [110, 111, 112, 116, 117] [42, 43, 44, 45, 46, 47, 48, 49, 51] V V' ∧ F_X12_called a1 a2 a3 a4 V = (y, V')) := by
  refine pm_MT.of (by decide) ⟨Nat.le_refl _, by decide⟩ (fun av V h => by rw [h.1]; exact (by decide : pm_words [(3, 0), (0, 0), (0, 0), (0, 0), (0, 0)] ≤ 13)) ?_
  rintro X av V0 hC - hR ⟨rfl, hV0, hn_pm_h1, hn_pm_h2, hn_pm_r1⟩
  change pm_J X 0 [(0, (3, 90)), (1, (0, a1)), (2, (0, a2)), (3, (0, a3)), (4, (0, a4))] [] 118 V0
  have hT := F_X12_called_eq a1 a2 a3 a4 V0
  obtain ⟨y1, e2⟩ : ∃ y, V0 90 35 = y := ⟨_, rfl⟩
  have b3 := hV0.get 90 35 (lo := 0) (hi := 10) (by decide) (by decide) rfl
  rw [e2] at b3
  replace hT := hT.trans (pf_let_eq e2)
  have hr1 := hn_pm_r1
  obtain ⟨N, hN, hwc, hla⟩ := hr1
  rw [e2] at hla
  obtain ⟨y4, e5⟩ : ∃ y, V0 90 16 = y := ⟨_, rfl⟩
  have b6 := hV0.get 90 16 (lo := 2) (hi := 9) (by decide) (by decide) rfl
  rw [e5] at b6
  replace hT := hT.trans (pf_let_eq e5)
  refine pm_aload_n hC 0 (by decide) dX12_called_0 rfl ?_
  refine pm_getf (v := y1) hC 90 fl_X12_296 rfl rfl (by decide) rfl e2 dX12_called_1 ?_
  refine pm_if_eq (tgt := 27) hC ⟨by exact ow_91_0 b3, by exact ow_91_1 b3⟩ dX12_called_4 (by decide) (fun c7 => ?_) (fun c7 => ?_)
  · skip
    replace hT := hT.trans (if_pos c7)
    refine pm_iconst (v := (-1)) hC dX12_called_27 ?_
    exact pm_iret hC hR pm_nar0 ⟨(-1), rfl, ⟨by exact ow_91_2, by exact ow_91_3⟩, hV0, (pm_fs.rf (cs := [110, 111, 112, 116, 117]) (fs := [42, 43, 44, 45, 46, 47, 48, 49, 51]) (V := V0)), hT⟩ dX12_called_28
  · skip
    replace hT := hT.trans (if_neg c7)
    refine pm_aload_n hC 0 (by decide) dX12_called_7 rfl ?_
    refine pm_iload_n hC 1 dX12_called_8 rfl ?_
    refine pm_iload_n hC 2 dX12_called_9 rfl ?_
    refine pm_iload_n hC 3 dX12_called_10 rfl ?_
    refine pm_callV (ci := 12) (as := [(0, a1), (0, a2), (0, a3)]) (st := []) hC 90 (fB_X12_isTrial a1 a2 a3 ⟨by exact ow_91_4 h0, by exact ow_91_5 h0⟩ ⟨by exact ow_91_4 h1, by exact ow_91_5 h1⟩ ⟨by exact ow_91_4 h2, by exact ow_91_5 h2⟩) lm_X12_373 li_X12_isTrial (by decide) (by decide) rfl rfl rfl (by decide) rfl rfl (Nat.le_of_ble_eq_true rfl) ⟨Nat.le_refl _, Or.inl rfl⟩ dX12_called_11 ⟨rfl, hV0⟩ (fun r8 V9 hp10 => ?_)
    obtain ⟨y11, rfl, b12, rfl, hE13⟩ := hp10
    replace hT := hT.trans (pf_call_eq hE13)
    change pm_J X 14 [(0, (3, 90)), (1, (0, a1)), (2, (0, a2)), (3, (0, a3)), (4, (0, a4))] [(0, y11)] 118 V0
    refine pm_if_eq (tgt := 27) hC ⟨by exact ow_91_6 b12, by exact ow_91_7 b12⟩ dX12_called_14 (by decide) (fun c14 => ?_) (fun c14 => ?_)
    · skip
      replace hT := hT.trans (if_pos c14)
      refine pm_iconst (v := (-1)) hC dX12_called_27 ?_
      exact pm_iret hC hR pm_nar0 ⟨(-1), rfl, ⟨by exact ow_91_2, by exact ow_91_3⟩, hV0, (pm_fs.rf (cs := [110, 111, 112, 116, 117]) (fs := [42, 43, 44, 45, 46, 47, 48, 49, 51]) (V := V0)), hT⟩ dX12_called_28
    · skip
      replace hT := hT.trans (if_neg c14)
      refine pm_iload hC 4 dX12_called_17 rfl ?_
      refine pm_iconst (v := 0) hC dX12_called_19 ?_
      refine pm_iconst (v := 1) hC dX12_called_20 ?_
      refine pm_callS (as := [(0, a4), (0, 0), (0, 1)]) (st := []) hC (fB_X12_in a4 0 1 ⟨by exact ow_91_4 h3, by exact ow_91_5 h3⟩ ⟨by decide, by decide⟩ ⟨by decide, by decide⟩) lm_X12_98 ls_X12_in (by decide) (by decide) rfl rfl (Nat.le_of_ble_eq_true rfl) ⟨Nat.le_refl _, Or.inl rfl⟩ dX12_called_21 ⟨rfl, hV0⟩ (fun r15 V16 hp17 => ?_)
      obtain ⟨y18, rfl, b19, rfl, hE20⟩ := hp17
      replace hT := hT.trans (pf_call_eq hE20)
      change pm_J X 24 [(0, (3, 90)), (1, (0, a1)), (2, (0, a2)), (3, (0, a3)), (4, (0, a4))] [(0, y18)] 118 V0
      refine pm_if_ne (tgt := 29) hC ⟨by exact ow_91_8 b19, by exact ow_91_9 b19⟩ dX12_called_24 (by decide) (fun c21 => ?_) (fun c21 => ?_)
      · skip
        replace hT := hT.trans (if_pos c21)
        refine pm_aload_n hC 0 (by decide) dX12_called_29 rfl ?_
        refine pm_iload_n hC 1 dX12_called_30 rfl ?_
        refine pm_iload_n hC 2 dX12_called_31 rfl ?_
        refine pm_iload_n hC 3 dX12_called_32 rfl ?_
        refine pm_callV (ci := 12) (as := [(0, a1), (0, a2), (0, a3)]) (st := []) hC 90 (fB_X12_tellsNames a1 a2 a3 ⟨by exact ow_91_10 b12 c14, by exact ow_91_11 b12 c14⟩ ⟨by exact ow_91_12 b12 c14, by exact ow_91_13 b12 c14⟩ ⟨by exact ow_91_14 b12 c14, by exact ow_91_15 b12 c14⟩ (by exact ow_91_16 b12 c14)) lm_X12_457 li_X12_tellsNames (by decide) (by decide) rfl rfl rfl (by decide) rfl rfl (Nat.le_of_ble_eq_true rfl) ⟨Nat.le_refl _, Or.inl rfl⟩ dX12_called_33 ⟨rfl, hV0, (show (a1) % 10 < V0 90 16 by exact ow_91_17 b12 c14), (show (a1) / 10 % 10 < V0 90 16 by exact ow_91_18 b12 c14), hn_pm_h1, hn_pm_h2⟩ (fun r22 V23 hp24 => ?_)
        obtain ⟨rfl, hV25, hF26, hE27⟩ := hp24
        replace hT := hT.trans (pf_call_eq hE27)
        change pm_J X 36 [(0, (3, 90)), (1, (0, a1)), (2, (0, a2)), (3, (0, a3)), (4, (0, a4))] [] 118 V23
        have hF28 := pm_fs.tr (pm_fs.rf (cs := [110, 111, 112, 116, 117]) (fs := [42, 43, 44, 45, 46, 47, 48, 49, 51]) (V := V0)) hF26 (by decide) (by decide)
        have e29 : V23 90 35 = y1 := by rw [hF26.2 35 (by decide)]; exact e2
        have e30 : V23 90 16 = y4 := by rw [hF26.2 16 (by decide)]; exact e5
        have hp31 : pm_h1 V23 := (pm_h1.fr hn_pm_h1 (hF26.2 16 (by decide)) (hF26.1 97 (by decide) (by decide)))
        have hp32 : pm_h2 V23 := (pm_h2.fr hn_pm_h2 (hF26.2 16 (by decide)) (hF26.2 21 (by decide)) (hF26.1 99 (by decide) (by decide)))
        have hp33 : pm_r1 V23 := (pm_r1.fr hn_pm_r1 (hF26.2 35 (by decide)) (hF26.1 108 (by decide) (by decide)))
        refine pm_iconst (v := 0) hC dX12_called_36 ?_
        refine pm_istore (lv' := [(5, (0, 0)), (0, (3, 90)), (1, (0, a1)), (2, (0, a2)), (3, (0, a3)), (4, (0, a4))]) hC dX12_called_37 (by decide) rfl ?_
        refine pm_iconst (v := 0) hC dX12_called_39 ?_
        refine pm_istore (lv' := [(6, (0, 0)), (5, (0, 0)), (0, (3, 90)), (1, (0, a1)), (2, (0, a2)), (3, (0, a3)), (4, (0, a4))]) hC dX12_called_40 (by decide) rfl ?_
        refine pm_iconst (v := 1) hC dX12_called_42 ?_
        refine pm_istore (lv' := [(7, (0, 1)), (6, (0, 0)), (5, (0, 0)), (0, (3, 90)), (1, (0, a1)), (2, (0, a2)), (3, (0, a3)), (4, (0, a4))]) hC dX12_called_43 (by decide) rfl ?_
        refine pm_iconst (v := 0) hC dX12_called_45 ?_
        refine pm_istore (lv' := [(8, (0, 0)), (7, (0, 1)), (6, (0, 0)), (5, (0, 0)), (0, (3, 90)), (1, (0, a1)), (2, (0, a2)), (3, (0, a3)), (4, (0, a4))]) hC dX12_called_46 (by decide) rfl ?_
        obtain ⟨B53, hB54, hT⟩ := pf_loop hT
        have L56 : ∀ (N58 : Nat) (x34 : Int) (x36 : Int) (x38 : Int) (x40 : Int) (V42 : pm_M), (0 ≤ x34 ∧ x34 ≤ 500) → ((-2) ≤ x36 ∧ x36 ≤ 500) → (0 ≤ x38 ∧ x38 ≤ 1) → (0 ≤ x40 ∧ x40 ≤ 500) → pm_oq pm_qB V42 → pm_fs [110, 111, 112, 116, 117] [42, 43, 44, 45, 46, 47, 48, 49, 51] V0 V42 → V42 90 35 = y1 → V42 90 16 = y4 → pm_h1 V42 → pm_h2 V42 → pm_r1 V42 → (x34 = pm_la (V0 108) ((x40) : Int).toNat) → (x36 = pm_hv (V0 108) ((x40) : Int).toNat) → (x40 ≤ N) → F_X12_called a1 a2 a3 a4 V0 = pf_val ((0 : Int), V0) B53 (x34, x36, x38, x40, V42) → (Int.toNat (500 - x40)) = N58 → pm_J X 48 [(0, (3, 90)), (1, (0, a1)), (2, (0, a2)), (3, (0, a3)), (4, (0, a4)), (5, (0, x34)), (6, (0, x36)), (7, (0, x38)), (8, (0, x40))] [] 118 V42 := by
          intro N58
          induction N58 using Nat.strongRecOn with
          | _ N58 ih59 =>
          intro x34 x36 x38 x40 V42 b35 b37 b39 b41 hV43 hF44 e45 e46 hp47 hp48 hp49 hx50 hx51 hx52 hT hm57
          have hb55 := congrFun hB54 (x34, x36, x38, x40, V42)
          refine pm_iload hC 5 dX12_called_48 rfl ?_
          refine pm_aload_n hC 0 (by decide) dX12_called_50 rfl ?_
          refine pm_getf (v := y1) hC 90 fl_X12_296 rfl rfl (by decide) rfl e45 dX12_called_51 ?_
          refine pm_icmp_ge (tgt := 336) hC ⟨by exact ow_91_19 b35, by exact ow_91_20 b35⟩ ⟨by exact ow_91_0 b3, by exact ow_91_1 b3⟩ dX12_called_54 (by decide) (fun c60 => ?_) (fun c60 => ?_)
          · skip
            replace hb55 := hb55.trans (if_pos c60)
            refine pm_iconst (v := (-1)) hC dX12_called_336 ?_
            replace hT := hT.trans (pf_val_inr hb55)
            exact pm_iret hC hR pm_nar0 ⟨(-1), rfl, ⟨by exact ow_91_2, by exact ow_91_3⟩, hV43, hF44, hT⟩ dX12_called_337
          · skip
            replace hb55 := hb55.trans (if_neg (Int.not_le.mpr c60))
            refine pm_aload_n hC 0 (by decide) dX12_called_57 rfl ?_
            have e61 : V42 90 36 = 108 := hV43.one 90 36 (by decide) (by decide) rfl
            refine pm_getf (v := 108) hC 90 fl_X12_64 rfl rfl (by decide) rfl e61 dX12_called_58 ?_
            refine pm_iconst (v := 2) hC dX12_called_61 ?_
            refine pm_iload hC 8 dX12_called_62 rfl ?_
            refine pm_imul hC dX12_called_64 ?_
            obtain ⟨y62, e63⟩ : ∃ y, V42 108 ((2 * x40) : Int).toNat = y := ⟨_, rfl⟩
            replace hb55 := hb55.trans (pf_let_eq e63)
            have b64 := hV43.get 108 ((2 * x40) : Int).toNat (lo := 0) (hi := 7) (t := 0) (by decide) (show _ < 1200 by exact ow_91_21 b41) ((pm_qe_r (tb := pm_qB) (k := 108) (i := ((2 * x40) : Int).toNat) (m := 2) (r := 0) (l := [(0, 7, 0), (0, 9999, 0)]) rfl rfl (by omega)).trans rfl)
            rw [e63] at b64
            refine pm_iaload (len := 1200) (v := y62) hC 108 rfl rfl (by decide) ⟨by exact ow_91_22 b41, by exact ow_91_23 b41⟩ (by decide) e63 dX12_called_65 ?_
            refine pm_istore (lv' := [(9, (0, y62)), (0, (3, 90)), (1, (0, a1)), (2, (0, a2)), (3, (0, a3)), (4, (0, a4)), (5, (0, x34)), (6, (0, x36)), (7, (0, x38)), (8, (0, x40))]) hC dX12_called_66 (by decide) rfl ?_
            refine pm_aload_n hC 1 (by decide) dX12_called_68 rfl ?_
            refine pm_getf (v := 108) hC 90 fl_X12_64 rfl rfl (by decide) rfl e61 dX12_called_69 ?_
            refine pm_iconst (v := 2) hC dX12_called_72 ?_
            refine pm_iload hC 9 dX12_called_73 rfl ?_
            refine pm_imul hC dX12_called_75 ?_
            refine pm_iconst (v := 1) hC dX12_called_76 ?_
            refine pm_iadd hC dX12_called_77 ?_
            obtain ⟨y65, e66⟩ : ∃ y, V42 108 (((2 * x40) + 1) : Int).toNat = y := ⟨_, rfl⟩
            replace hb55 := hb55.trans (pf_let_eq e66)
            have b67 := hV43.get 108 (((2 * x40) + 1) : Int).toNat (lo := 0) (hi := 9999) (t := 0) (by decide) (show _ < 1200 by exact ow_91_24 b41) ((pm_qe_r (tb := pm_qB) (k := 108) (i := (((2 * x40) + 1) : Int).toNat) (m := 2) (r := 1) (l := [(0, 7, 0), (0, 9999, 0)]) rfl rfl (by omega)).trans rfl)
            rw [e66] at b67
            refine pm_iaload (len := 1200) (v := y65) hC 108 rfl rfl (by decide) ⟨by exact ow_91_25 b41, by exact ow_91_26 b41⟩ (by decide) e66 dX12_called_78 ?_
            refine pm_istore (lv' := [(10, (0, y65)), (9, (0, y62)), (0, (3, 90)), (1, (0, a1)), (2, (0, a2)), (3, (0, a3)), (4, (0, a4)), (5, (0, x34)), (6, (0, x36)), (7, (0, x38)), (8, (0, x40))]) hC dX12_called_79 (by decide) rfl ?_
            have hcy : V0 108 (2 * (x40 : Int).toNat) = y62 := by rw [← e63, hF44.1 108 (by decide) (by decide), show ((2 * x40) : Int).toNat = 2 * (x40 : Int).toNat by exact ow_91_27]
            have hcz : V0 108 (2 * (x40 : Int).toNat + 1) = y65 := by rw [← e66, hF44.1 108 (by decide) (by decide), show (((2 * x40) + 1) : Int).toNat = 2 * (x40 : Int).toNat + 1 by exact ow_91_28 b41]
            obtain ⟨hkN, hv0, hvk, hcs⟩ := pm_cs_of hwc hla (k := (x40 : Int).toNat) (by exact ow_91_29 hx52) (by exact ow_91_30 hx50 c60) hcy hcz
            refine pm_iload hC 1 dX12_called_81 rfl ?_
            refine pm_bipush (v := 7) hC dX12_called_83 (by decide) ?_
            refine pm_icmp_ne (tgt := 118) hC ⟨by exact ow_91_31 b64, by exact ow_91_32 b64⟩ ⟨by decide, by decide⟩ dX12_called_85 (by decide) (fun c68 => ?_) (fun c68 => ?_)
            · skip
              replace hb55 := hb55.trans (if_pos c68)
              refine pm_iload hC 1 dX12_called_118 rfl ?_
              refine pm_if_eq (tgt := 129) hC ⟨by exact ow_91_31 b64, by exact ow_91_32 b64⟩ dX12_called_120 (by decide) (fun c69 => ?_) (fun c69 => ?_)
              · skip
                replace hb55 := hb55.trans (if_pos c69)
                refine pm_aload_n hC 2 (by decide) dX12_called_129 rfl ?_
                have e70 : V42 90 56 = 117 := hV43.one 90 56 (by decide) (by decide) rfl
                refine pm_getf (v := 117) hC 90 fl_X12_91 rfl rfl (by decide) rfl e70 dX12_called_130 ?_
                refine pm_iload hC 8 dX12_called_133 rfl ?_
                refine pm_iload hC 1 dX12_called_135 rfl ?_
                refine pm_if_ne (tgt := 145) hC ⟨by exact ow_91_31 b64, by exact ow_91_33 c69⟩ dX12_called_137 (by decide) (fun c71 => ?_) (fun c71 => ?_)
                · skip
                  replace hb55 := hb55.trans (if_pos c71)
                  exfalso; exact ow_91_34 b64 c69 c71
                · skip
                  replace hb55 := hb55.trans (if_neg (fun q => q c71))
                  refine pm_iload hC 0 dX12_called_140 rfl ?_
                  refine pm_goto (tgt := 152) hC dX12_called_142 (by decide) ?_
                  refine pm_iastore (len := 600) hC 117 rfl rfl (by decide) ⟨by omega, by exact ow_91_35 b37⟩ (by decide) dX12_called_152 ?_
                  obtain ⟨x72, ei73⟩ : ∃ y : Int, x36 + 1 = y := ⟨_, rfl⟩
                  replace hb55 := hb55.trans (pf_let_eq ei73)
                  refine pm_iinc (y := x72) (lv' := [(6, (0, x72)), (10, (0, y65)), (9, (0, y62)), (0, (3, 90)), (1, (0, a1)), (2, (0, a2)), (3, (0, a3)), (4, (0, a4)), (5, (0, x34)), (7, (0, x38)), (8, (0, x40))]) hC 8 dX12_called_153 (by decide) rfl ei73 rfl ?_
                  refine pm_goto (tgt := 330) hC dX12_called_156 (by decide) ?_
                  obtain ⟨x74, ei75⟩ : ∃ y : Int, x40 + 1 = y := ⟨_, rfl⟩
                  replace hb55 := hb55.trans (pf_let_eq ei75)
                  refine pm_iinc (y := x74) (lv' := [(8, (0, x74)), (6, (0, x72)), (10, (0, y65)), (9, (0, y62)), (0, (3, 90)), (1, (0, a1)), (2, (0, a2)), (3, (0, a3)), (4, (0, a4)), (5, (0, x34)), (7, (0, x38))]) hC 10 dX12_called_330 (by decide) rfl ei75 rfl ?_
                  refine pm_goto (tgt := 48) hC dX12_called_333 (by decide) ?_
                  refine pm_lvsub [4, 5, 6, 7, 8, 9, 1, 10, 0] (lv' := [(0, (3, 90)), (1, (0, a1)), (2, (0, a2)), (3, (0, a3)), (4, (0, a4)), (5, (0, x34)), (6, (0, x72)), (7, (0, x38)), (8, (0, x74))]) rfl ?_
                  exact ih59 _ (by exact ow_91_36 hN hm57 hkN ei75) x34 x72 x38 x74 (pm_up V42 117 (x36 : Int).toNat y65) ⟨by exact ow_91_37 b35, by exact ow_91_38 b3 c60⟩ ⟨by exact ow_91_39 b37 ei73, by exact ow_91_40 hN hx51 hkN hvk ei73⟩ ⟨by exact ow_91_41 b39, by exact ow_91_42 b39⟩ ⟨by exact ow_91_43 b41 ei75, by exact ow_91_44 hN hkN ei75⟩ (hV43.put 117 (x36 : Int).toNat (x := y65) (lo := (-2147483648)) (hi := 2147483647) rfl ⟨by exact ow_91_45 b67, by exact ow_91_46 b67⟩) (hF44.up 117 (x36 : Int).toNat y65 (by decide) rfl) e45 e46 (pm_h1.fr hp47 rfl rfl) (pm_h2.fr hp48 rfl rfl rfl) (pm_r1.fr hp49 rfl rfl) (by rw [show ((x74) : Int).toNat = (x40 : Int).toNat + 1 by exact ow_91_47 b41 ei75]; first | (have q := hcs.2.2.1 (by omega); omega) | (have q := hcs.2.2.2.1 (by omega); omega) | (have q := hcs.2.2.2.2.1 (by omega); omega) | (have q := hcs.2.2.2.2.2 (by omega) (by omega); omega)) (by rw [show ((x74) : Int).toNat = (x40 : Int).toNat + 1 by exact ow_91_47 b41 ei75]; first | (have q := hcs.2.2.1 (by omega); omega) | (have q := hcs.2.2.2.1 (by omega); omega) | (have q := hcs.2.2.2.2.1 (by omega); omega) | (have q := hcs.2.2.2.2.2 (by omega) (by omega); omega)) (by exact ow_91_48 hkN ei75) (hT.trans (pf_val_inl hb55)) rfl
              · skip
                replace hb55 := hb55.trans (if_neg c69)
                refine pm_iload hC 1 dX12_called_123 rfl ?_
                refine pm_iconst (v := 1) hC dX12_called_125 ?_
                refine pm_icmp_ne (tgt := 159) hC ⟨by exact ow_91_31 b64, by exact ow_91_32 b64⟩ ⟨by decide, by decide⟩ dX12_called_126 (by decide) (fun c76 => ?_) (fun c76 => ?_)
                · skip
                  replace hb55 := hb55.trans (if_pos c76)
                  have hc2 := hcs.1 (by exact ow_91_49 b64 c69 c76) (by exact ow_91_50 b64 c68)
                  refine pm_aload_n hC 2 (by decide) dX12_called_159 rfl ?_
                  have e77 : V42 90 56 = 117 := hV43.one 90 56 (by decide) (by decide) rfl
                  refine pm_getf (v := 117) hC 90 fl_X12_91 rfl rfl (by decide) rfl e77 dX12_called_160 ?_
                  refine pm_iload hC 8 dX12_called_163 rfl ?_
                  refine pm_iconst (v := 2) hC dX12_called_165 ?_
                  refine pm_isub hC dX12_called_166 ?_
                  obtain ⟨y78, e79⟩ : ∃ y, V42 117 ((x36 - 2) : Int).toNat = y := ⟨_, rfl⟩
                  replace hb55 := hb55.trans (pf_let_eq e79)
                  have b80 := hV43.get 117 ((x36 - 2) : Int).toNat (lo := (-2147483648)) (hi := 2147483647) (t := 0) (by decide) (show _ < 600 by exact ow_91_51 b37) rfl
                  rw [e79] at b80
                  refine pm_iaload (len := 600) (v := y78) hC 117 rfl rfl (by decide) ⟨by omega, by exact ow_91_52 b37⟩ (by decide) e79 dX12_called_167 ?_
                  refine pm_istore (lv' := [(11, (0, y78)), (10, (0, y65)), (9, (0, y62)), (0, (3, 90)), (1, (0, a1)), (2, (0, a2)), (3, (0, a3)), (4, (0, a4)), (5, (0, x34)), (6, (0, x36)), (7, (0, x38)), (8, (0, x40))]) hC dX12_called_168 (by decide) rfl ?_
                  refine pm_aload_n hC 3 (by decide) dX12_called_170 rfl ?_
                  refine pm_getf (v := 117) hC 90 fl_X12_91 rfl rfl (by decide) rfl e77 dX12_called_171 ?_
                  refine pm_iload hC 9 dX12_called_174 rfl ?_
                  refine pm_iconst (v := 1) hC dX12_called_176 ?_
                  refine pm_isub hC dX12_called_177 ?_
                  obtain ⟨y81, e82⟩ : ∃ y, V42 117 ((x36 - 1) : Int).toNat = y := ⟨_, rfl⟩
                  replace hb55 := hb55.trans (pf_let_eq e82)
                  have b83 := hV43.get 117 ((x36 - 1) : Int).toNat (lo := (-2147483648)) (hi := 2147483647) (t := 0) (by decide) (show _ < 600 by exact ow_91_53 b37) rfl
                  rw [e82] at b83
                  refine pm_iaload (len := 600) (v := y81) hC 117 rfl rfl (by decide) ⟨by omega, by exact ow_91_54 b37⟩ (by decide) e82 dX12_called_178 ?_
                  refine pm_istore (lv' := [(12, (0, y81)), (11, (0, y78)), (10, (0, y65)), (9, (0, y62)), (0, (3, 90)), (1, (0, a1)), (2, (0, a2)), (3, (0, a3)), (4, (0, a4)), (5, (0, x34)), (6, (0, x36)), (7, (0, x38)), (8, (0, x40))]) hC dX12_called_179 (by decide) rfl ?_
                  refine pm_iload hC 10 dX12_called_181 rfl ?_
                  refine pm_iload hC 3 dX12_called_183 rfl ?_
                  refine pm_iconst (v := 5) hC dX12_called_185 ?_
                  refine pm_icmp_eq (tgt := 196) hC ⟨by exact ow_91_31 b64, by exact ow_91_32 b64⟩ ⟨by decide, by decide⟩ dX12_called_186 (by decide) (fun c84 => ?_) (fun c84 => ?_)
                  · skip
                    replace hb55 := hb55.trans (if_pos c84)
                    refine pm_iconst (v := 2) hC dX12_called_196 ?_
                    refine pm_goto (tgt := 201) hC dX12_called_197 (by decide) ?_
                    refine pm_isub hC dX12_called_201 ?_
                    refine pm_istore (lv' := [(6, (0, (x36 - 2))), (12, (0, y81)), (11, (0, y78)), (10, (0, y65)), (9, (0, y62)), (0, (3, 90)), (1, (0, a1)), (2, (0, a2)), (3, (0, a3)), (4, (0, a4)), (5, (0, x34)), (7, (0, x38)), (8, (0, x40))]) hC dX12_called_202 (by decide) rfl ?_
                    refine pm_iload hC 4 dX12_called_204 rfl ?_
                    refine pm_iconst (v := 5) hC dX12_called_206 ?_
                    refine pm_icmp_ne (tgt := 229) hC ⟨by exact ow_91_55 c84, by exact ow_91_56 c84⟩ ⟨by decide, by decide⟩ dX12_called_207 (by decide) (fun c85 => ?_) (fun c85 => ?_)
                    · skip
                      replace hb55 := hb55.trans (if_pos c85)
                      exfalso; exact ow_91_57 c84 c85
                    · skip
                      replace hb55 := hb55.trans (if_neg (fun q => q c85))
                      refine pm_iload hC 11 dX12_called_210 rfl ?_
                      refine pm_if_eq (tgt := 226) hC ⟨by exact ow_91_58 b39, by exact ow_91_59 b39⟩ dX12_called_212 (by decide) (fun c86 => ?_) (fun c86 => ?_)
                      · skip
                        replace hb55 := hb55.trans (if_pos c86)
                        refine pm_iconst (v := 0) hC dX12_called_226 ?_
                        refine pm_istore (lv' := [(7, (0, 0)), (6, (0, (x36 - 2))), (12, (0, y81)), (11, (0, y78)), (10, (0, y65)), (9, (0, y62)), (0, (3, 90)), (1, (0, a1)), (2, (0, a2)), (3, (0, a3)), (4, (0, a4)), (5, (0, x34)), (8, (0, x40))]) hC dX12_called_227 (by decide) rfl ?_
                        refine pm_iload hC 5 dX12_called_229 rfl ?_
                        refine pm_bipush (v := 6) hC dX12_called_231 (by decide) ?_
                        refine pm_icmp_ne (tgt := 255) hC ⟨by exact ow_91_55 c84, by exact ow_91_56 c84⟩ ⟨by decide, by decide⟩ dX12_called_233 (by decide) (fun c87 => ?_) (fun c87 => ?_)
                        · skip
                          replace hb55 := hb55.trans (if_pos c87)
                          refine pm_iload hC 5 dX12_called_255 rfl ?_
                          refine pm_iconst (v := 2) hC dX12_called_257 ?_
                          refine pm_icmp_ne (tgt := 280) hC ⟨by exact ow_91_55 c84, by exact ow_91_56 c84⟩ ⟨by decide, by decide⟩ dX12_called_258 (by decide) (fun c88 => ?_) (fun c88 => ?_)
                          · skip
                            replace hb55 := hb55.trans (if_pos c88)
                            refine pm_iload hC 5 dX12_called_280 rfl ?_
                            refine pm_iconst (v := 3) hC dX12_called_282 ?_
                            refine pm_icmp_ne (tgt := 305) hC ⟨by exact ow_91_55 c84, by exact ow_91_56 c84⟩ ⟨by decide, by decide⟩ dX12_called_283 (by decide) (fun c89 => ?_) (fun c89 => ?_)
                            · skip
                              replace hb55 := hb55.trans (if_pos c89)
                              refine pm_iload hC 5 dX12_called_305 rfl ?_
                              refine pm_iconst (v := 4) hC dX12_called_307 ?_
                              refine pm_icmp_ne (tgt := 330) hC ⟨by exact ow_91_55 c84, by exact ow_91_56 c84⟩ ⟨by decide, by decide⟩ dX12_called_308 (by decide) (fun c90 => ?_) (fun c90 => ?_)
                              · skip
                                replace hb55 := hb55.trans (if_pos c90)
                                obtain ⟨x91, ei92⟩ : ∃ y : Int, x40 + 1 = y := ⟨_, rfl⟩
                                replace hb55 := hb55.trans (pf_let_eq ei92)
                                refine pm_iinc (y := x91) (lv' := [(8, (0, x91)), (7, (0, 0)), (6, (0, (x36 - 2))), (12, (0, y81)), (11, (0, y78)), (10, (0, y65)), (9, (0, y62)), (0, (3, 90)), (1, (0, a1)), (2, (0, a2)), (3, (0, a3)), (4, (0, a4)), (5, (0, x34))]) hC 12 dX12_called_330 (by decide) rfl ei92 rfl ?_
                                refine pm_goto (tgt := 48) hC dX12_called_333 (by decide) ?_
                                refine pm_lvsub [7, 8, 9, 10, 11, 12, 2, 1, 0] (lv' := [(0, (3, 90)), (1, (0, a1)), (2, (0, a2)), (3, (0, a3)), (4, (0, a4)), (5, (0, x34)), (6, (0, (x36 - 2))), (7, (0, 0)), (8, (0, x91))]) rfl ?_
                                exact ih59 _ (by exact ow_91_36 hN hm57 hkN ei92) x34 (x36 - 2) 0 x91 V42 ⟨by exact ow_91_37 b35, by exact ow_91_38 b3 c60⟩ ⟨by omega, by exact ow_91_60 b37⟩ ⟨by decide, by decide⟩ ⟨by exact ow_91_43 b41 ei92, by exact ow_91_44 hN hkN ei92⟩ hV43 hF44 e45 e46 hp47 hp48 hp49 (by rw [show ((x91) : Int).toNat = (x40 : Int).toNat + 1 by exact ow_91_47 b41 ei92]; first | (have q := hcs.2.2.1 (by omega); omega) | (have q := hcs.2.2.2.1 (by omega); omega) | (have q := hcs.2.2.2.2.1 (by omega); omega) | (have q := hcs.2.2.2.2.2 (by omega) (by omega); omega)) (by rw [show ((x91) : Int).toNat = (x40 : Int).toNat + 1 by exact ow_91_47 b41 ei92]; first | (have q := hcs.2.2.1 (by omega); omega) | (have q := hcs.2.2.2.1 (by omega); omega) | (have q := hcs.2.2.2.2.1 (by omega); omega) | (have q := hcs.2.2.2.2.2 (by omega) (by omega); omega)) (by exact ow_91_48 hkN ei92) (hT.trans (pf_val_inl hb55)) rfl
                              · skip
                                replace hb55 := hb55.trans (if_neg (fun q => q c90))
                                exfalso; exact ow_91_61 c84 c90
                            · skip
                              replace hb55 := hb55.trans (if_neg (fun q => q c89))
                              exfalso; exact ow_91_62 c84 c89
                          · skip
                            replace hb55 := hb55.trans (if_neg (fun q => q c88))
                            exfalso; exact ow_91_63 c84 c88
                        · skip
                          replace hb55 := hb55.trans (if_neg (fun q => q c87))
                          exfalso; exact ow_91_64 c84 c87
                      · skip
                        replace hb55 := hb55.trans (if_neg c86)
                        refine pm_iload hC 2 dX12_called_215 rfl ?_
                        refine pm_iload hC 1 dX12_called_217 rfl ?_
                        refine pm_icmp_ge (tgt := 226) hC ⟨by exact ow_91_4 b80, by exact ow_91_5 b80⟩ ⟨by exact ow_91_4 b83, by exact ow_91_5 b83⟩ dX12_called_219 (by decide) (fun c93 => ?_) (fun c93 => ?_)
                        · skip
                          replace hb55 := hb55.trans (if_pos c93)
                          refine pm_iconst (v := 0) hC dX12_called_226 ?_
                          refine pm_istore (lv' := [(7, (0, 0)), (6, (0, (x36 - 2))), (12, (0, y81)), (11, (0, y78)), (10, (0, y65)), (9, (0, y62)), (0, (3, 90)), (1, (0, a1)), (2, (0, a2)), (3, (0, a3)), (4, (0, a4)), (5, (0, x34)), (8, (0, x40))]) hC dX12_called_227 (by decide) rfl ?_
                          refine pm_iload hC 5 dX12_called_229 rfl ?_
                          refine pm_bipush (v := 6) hC dX12_called_231 (by decide) ?_
                          refine pm_icmp_ne (tgt := 255) hC ⟨by exact ow_91_55 c84, by exact ow_91_56 c84⟩ ⟨by decide, by decide⟩ dX12_called_233 (by decide) (fun c94 => ?_) (fun c94 => ?_)
                          · skip
                            replace hb55 := hb55.trans (if_pos c94)
                            refine pm_iload hC 5 dX12_called_255 rfl ?_
                            refine pm_iconst (v := 2) hC dX12_called_257 ?_
                            refine pm_icmp_ne (tgt := 280) hC ⟨by exact ow_91_55 c84, by exact ow_91_56 c84⟩ ⟨by decide, by decide⟩ dX12_called_258 (by decide) (fun c95 => ?_) (fun c95 => ?_)
                            · skip
                              replace hb55 := hb55.trans (if_pos c95)
                              refine pm_iload hC 5 dX12_called_280 rfl ?_
                              refine pm_iconst (v := 3) hC dX12_called_282 ?_
                              refine pm_icmp_ne (tgt := 305) hC ⟨by exact ow_91_55 c84, by exact ow_91_56 c84⟩ ⟨by decide, by decide⟩ dX12_called_283 (by decide) (fun c96 => ?_) (fun c96 => ?_)
                              · skip
                                replace hb55 := hb55.trans (if_pos c96)
                                refine pm_iload hC 5 dX12_called_305 rfl ?_
                                refine pm_iconst (v := 4) hC dX12_called_307 ?_
                                refine pm_icmp_ne (tgt := 330) hC ⟨by exact ow_91_55 c84, by exact ow_91_56 c84⟩ ⟨by decide, by decide⟩ dX12_called_308 (by decide) (fun c97 => ?_) (fun c97 => ?_)
                                · skip
                                  replace hb55 := hb55.trans (if_pos c97)
                                  obtain ⟨x98, ei99⟩ : ∃ y : Int, x40 + 1 = y := ⟨_, rfl⟩
                                  replace hb55 := hb55.trans (pf_let_eq ei99)
                                  refine pm_iinc (y := x98) (lv' := [(8, (0, x98)), (7, (0, 0)), (6, (0, (x36 - 2))), (12, (0, y81)), (11, (0, y78)), (10, (0, y65)), (9, (0, y62)), (0, (3, 90)), (1, (0, a1)), (2, (0, a2)), (3, (0, a3)), (4, (0, a4)), (5, (0, x34))]) hC 12 dX12_called_330 (by decide) rfl ei99 rfl ?_
                                  refine pm_goto (tgt := 48) hC dX12_called_333 (by decide) ?_
                                  refine pm_lvsub [7, 8, 9, 10, 11, 12, 2, 1, 0] (lv' := [(0, (3, 90)), (1, (0, a1)), (2, (0, a2)), (3, (0, a3)), (4, (0, a4)), (5, (0, x34)), (6, (0, (x36 - 2))), (7, (0, 0)), (8, (0, x98))]) rfl ?_
                                  exact ih59 _ (by exact ow_91_36 hN hm57 hkN ei99) x34 (x36 - 2) 0 x98 V42 ⟨by exact ow_91_37 b35, by exact ow_91_38 b3 c60⟩ ⟨by omega, by exact ow_91_60 b37⟩ ⟨by decide, by decide⟩ ⟨by exact ow_91_43 b41 ei99, by exact ow_91_44 hN hkN ei99⟩ hV43 hF44 e45 e46 hp47 hp48 hp49 (by rw [show ((x98) : Int).toNat = (x40 : Int).toNat + 1 by exact ow_91_47 b41 ei99]; first | (have q := hcs.2.2.1 (by omega); omega) | (have q := hcs.2.2.2.1 (by omega); omega) | (have q := hcs.2.2.2.2.1 (by omega); omega) | (have q := hcs.2.2.2.2.2 (by omega) (by omega); omega)) (by rw [show ((x98) : Int).toNat = (x40 : Int).toNat + 1 by exact ow_91_47 b41 ei99]; first | (have q := hcs.2.2.1 (by omega); omega) | (have q := hcs.2.2.2.1 (by omega); omega) | (have q := hcs.2.2.2.2.1 (by omega); omega) | (have q := hcs.2.2.2.2.2 (by omega) (by omega); omega)) (by exact ow_91_48 hkN ei99) (hT.trans (pf_val_inl hb55)) rfl
                                · skip
                                  replace hb55 := hb55.trans (if_neg (fun q => q c97))
                                  exfalso; exact ow_91_61 c84 c97
                              · skip
                                replace hb55 := hb55.trans (if_neg (fun q => q c96))
                                exfalso; exact ow_91_62 c84 c96
                            · skip
                              replace hb55 := hb55.trans (if_neg (fun q => q c95))
                              exfalso; exact ow_91_63 c84 c95
                          · skip
                            replace hb55 := hb55.trans (if_neg (fun q => q c94))
                            exfalso; exact ow_91_64 c84 c94
                        · skip
                          replace hb55 := hb55.trans (if_neg (Int.not_le.mpr c93))
                          refine pm_iconst (v := 1) hC dX12_called_222 ?_
                          refine pm_goto (tgt := 227) hC dX12_called_223 (by decide) ?_
                          refine pm_istore (lv' := [(7, (0, 1)), (6, (0, (x36 - 2))), (12, (0, y81)), (11, (0, y78)), (10, (0, y65)), (9, (0, y62)), (0, (3, 90)), (1, (0, a1)), (2, (0, a2)), (3, (0, a3)), (4, (0, a4)), (5, (0, x34)), (8, (0, x40))]) hC dX12_called_227 (by decide) rfl ?_
                          refine pm_iload hC 5 dX12_called_229 rfl ?_
                          refine pm_bipush (v := 6) hC dX12_called_231 (by decide) ?_
                          refine pm_icmp_ne (tgt := 255) hC ⟨by exact ow_91_55 c84, by exact ow_91_56 c84⟩ ⟨by decide, by decide⟩ dX12_called_233 (by decide) (fun c100 => ?_) (fun c100 => ?_)
                          · skip
                            replace hb55 := hb55.trans (if_pos c100)
                            refine pm_iload hC 5 dX12_called_255 rfl ?_
                            refine pm_iconst (v := 2) hC dX12_called_257 ?_
                            refine pm_icmp_ne (tgt := 280) hC ⟨by exact ow_91_55 c84, by exact ow_91_56 c84⟩ ⟨by decide, by decide⟩ dX12_called_258 (by decide) (fun c101 => ?_) (fun c101 => ?_)
                            · skip
                              replace hb55 := hb55.trans (if_pos c101)
                              refine pm_iload hC 5 dX12_called_280 rfl ?_
                              refine pm_iconst (v := 3) hC dX12_called_282 ?_
                              refine pm_icmp_ne (tgt := 305) hC ⟨by exact ow_91_55 c84, by exact ow_91_56 c84⟩ ⟨by decide, by decide⟩ dX12_called_283 (by decide) (fun c102 => ?_) (fun c102 => ?_)
                              · skip
                                replace hb55 := hb55.trans (if_pos c102)
                                refine pm_iload hC 5 dX12_called_305 rfl ?_
                                refine pm_iconst (v := 4) hC dX12_called_307 ?_
                                refine pm_icmp_ne (tgt := 330) hC ⟨by exact ow_91_55 c84, by exact ow_91_56 c84⟩ ⟨by decide, by decide⟩ dX12_called_308 (by decide) (fun c103 => ?_) (fun c103 => ?_)
                                · skip
                                  replace hb55 := hb55.trans (if_pos c103)
                                  obtain ⟨x104, ei105⟩ : ∃ y : Int, x40 + 1 = y := ⟨_, rfl⟩
                                  replace hb55 := hb55.trans (pf_let_eq ei105)
                                  refine pm_iinc (y := x104) (lv' := [(8, (0, x104)), (7, (0, 1)), (6, (0, (x36 - 2))), (12, (0, y81)), (11, (0, y78)), (10, (0, y65)), (9, (0, y62)), (0, (3, 90)), (1, (0, a1)), (2, (0, a2)), (3, (0, a3)), (4, (0, a4)), (5, (0, x34))]) hC 12 dX12_called_330 (by decide) rfl ei105 rfl ?_
                                  refine pm_goto (tgt := 48) hC dX12_called_333 (by decide) ?_
                                  refine pm_lvsub [7, 8, 9, 10, 11, 12, 2, 1, 0] (lv' := [(0, (3, 90)), (1, (0, a1)), (2, (0, a2)), (3, (0, a3)), (4, (0, a4)), (5, (0, x34)), (6, (0, (x36 - 2))), (7, (0, 1)), (8, (0, x104))]) rfl ?_
                                  exact ih59 _ (by exact ow_91_36 hN hm57 hkN ei105) x34 (x36 - 2) 1 x104 V42 ⟨by exact ow_91_37 b35, by exact ow_91_38 b3 c60⟩ ⟨by omega, by exact ow_91_60 b37⟩ ⟨by decide, by decide⟩ ⟨by exact ow_91_43 b41 ei105, by exact ow_91_44 hN hkN ei105⟩ hV43 hF44 e45 e46 hp47 hp48 hp49 (by rw [show ((x104) : Int).toNat = (x40 : Int).toNat + 1 by exact ow_91_47 b41 ei105]; first | (have q := hcs.2.2.1 (by omega); omega) | (have q := hcs.2.2.2.1 (by omega); omega) | (have q := hcs.2.2.2.2.1 (by omega); omega) | (have q := hcs.2.2.2.2.2 (by omega) (by omega); omega)) (by rw [show ((x104) : Int).toNat = (x40 : Int).toNat + 1 by exact ow_91_47 b41 ei105]; first | (have q := hcs.2.2.1 (by omega); omega) | (have q := hcs.2.2.2.1 (by omega); omega) | (have q := hcs.2.2.2.2.1 (by omega); omega) | (have q := hcs.2.2.2.2.2 (by omega) (by omega); omega)) (by exact ow_91_48 hkN ei105) (hT.trans (pf_val_inl hb55)) rfl
                                · skip
                                  replace hb55 := hb55.trans (if_neg (fun q => q c103))
                                  exfalso; exact ow_91_61 c84 c103
                              · skip
                                replace hb55 := hb55.trans (if_neg (fun q => q c102))
                                exfalso; exact ow_91_62 c84 c102
                            · skip
                              replace hb55 := hb55.trans (if_neg (fun q => q c101))
                              exfalso; exact ow_91_63 c84 c101
                          · skip
                            replace hb55 := hb55.trans (if_neg (fun q => q c100))
                            exfalso; exact ow_91_64 c84 c100
                  · skip
                    replace hb55 := hb55.trans (if_neg c84)
                    refine pm_iload hC 3 dX12_called_189 rfl ?_
                    refine pm_bipush (v := 6) hC dX12_called_191 (by decide) ?_
                    refine pm_icmp_ne (tgt := 200) hC ⟨by exact ow_91_31 b64, by exact ow_91_32 b64⟩ ⟨by decide, by decide⟩ dX12_called_193 (by decide) (fun c106 => ?_) (fun c106 => ?_)
                    · skip
                      replace hb55 := hb55.trans (if_pos c106)
                      refine pm_iconst (v := 1) hC dX12_called_200 ?_
                      refine pm_isub hC dX12_called_201 ?_
                      refine pm_istore (lv' := [(6, (0, (x36 - 1))), (12, (0, y81)), (11, (0, y78)), (10, (0, y65)), (9, (0, y62)), (0, (3, 90)), (1, (0, a1)), (2, (0, a2)), (3, (0, a3)), (4, (0, a4)), (5, (0, x34)), (7, (0, x38)), (8, (0, x40))]) hC dX12_called_202 (by decide) rfl ?_
                      refine pm_iload hC 4 dX12_called_204 rfl ?_
                      refine pm_iconst (v := 5) hC dX12_called_206 ?_
                      refine pm_icmp_ne (tgt := 229) hC ⟨by exact ow_91_31 b64, by exact ow_91_32 b64⟩ ⟨by decide, by decide⟩ dX12_called_207 (by decide) (fun c107 => ?_) (fun c107 => ?_)
                      · skip
                        replace hb55 := hb55.trans (if_pos c107)
                        refine pm_iload hC 4 dX12_called_229 rfl ?_
                        refine pm_bipush (v := 6) hC dX12_called_231 (by decide) ?_
                        refine pm_icmp_ne (tgt := 255) hC ⟨by exact ow_91_31 b64, by exact ow_91_32 b64⟩ ⟨by decide, by decide⟩ dX12_called_233 (by decide) (fun c108 => ?_) (fun c108 => ?_)
                        · skip
                          replace hb55 := hb55.trans (if_pos c108)
                          refine pm_iload hC 4 dX12_called_255 rfl ?_
                          refine pm_iconst (v := 2) hC dX12_called_257 ?_
                          refine pm_icmp_ne (tgt := 280) hC ⟨by exact ow_91_31 b64, by exact ow_91_32 b64⟩ ⟨by decide, by decide⟩ dX12_called_258 (by decide) (fun c109 => ?_) (fun c109 => ?_)
                          · skip
                            replace hb55 := hb55.trans (if_pos c109)
                            refine pm_iload hC 4 dX12_called_280 rfl ?_
                            refine pm_iconst (v := 3) hC dX12_called_282 ?_
                            refine pm_icmp_ne (tgt := 305) hC ⟨by exact ow_91_31 b64, by exact ow_91_32 b64⟩ ⟨by decide, by decide⟩ dX12_called_283 (by decide) (fun c110 => ?_) (fun c110 => ?_)
                            · skip
                              replace hb55 := hb55.trans (if_pos c110)
                              refine pm_iload hC 4 dX12_called_305 rfl ?_
                              refine pm_iconst (v := 4) hC dX12_called_307 ?_
                              refine pm_icmp_ne (tgt := 330) hC ⟨by exact ow_91_31 b64, by exact ow_91_32 b64⟩ ⟨by decide, by decide⟩ dX12_called_308 (by decide) (fun c111 => ?_) (fun c111 => ?_)
                              · skip
                                replace hb55 := hb55.trans (if_pos c111)
                                exfalso; exact ow_91_65 b64 c68 c69 c76 c106 c107 c109 c110 c111
                              · skip
                                replace hb55 := hb55.trans (if_neg (fun q => q c111))
                                refine pm_aload_n hC 5 (by decide) dX12_called_311 rfl ?_
                                refine pm_getf (v := 117) hC 90 fl_X12_91 rfl rfl (by decide) rfl e77 dX12_called_312 ?_
                                refine pm_iload hC 0 dX12_called_315 rfl ?_
                                refine pm_iconst (v := 1) hC dX12_called_317 ?_
                                refine pm_isub hC dX12_called_318 ?_
                                refine pm_iload hC 2 dX12_called_319 rfl ?_
                                refine pm_i2l hC ⟨by exact ow_91_4 b80, by exact ow_91_5 b80⟩ dX12_called_321 ?_
                                refine pm_iload hC 1 dX12_called_322 rfl ?_
                                refine pm_i2l hC ⟨by exact ow_91_4 b83, by exact ow_91_5 b83⟩ dX12_called_324 ?_
                                refine pm_lmul hC dX12_called_325 ?_
                                have b113 : (-4611686016279904256) ≤ (y78 * y81) ∧ (y78 * y81) ≤ 4611686018427387904 := pm_mulg (a := (-2147483648)) (b := 2147483647) (c := (-2147483648)) (d := 2147483647) ⟨by exact ow_91_4 b80, by exact ow_91_5 b80⟩ ⟨by exact ow_91_4 b83, by exact ow_91_5 b83⟩ (by decide) (by decide)
                                obtain ⟨y112, hey112⟩ : ∃ z, (y78 * y81) = z := ⟨_, rfl⟩
                                rw [hey112] at b113 ⊢
                                replace hb55 := hb55.trans (pf_let_eq hey112)
                                refine pm_callS (as := [(1, y112)]) (st := [(0, ((x36 - 1) - 1)), (3, 117)]) hC (fB_X12_brought y112 ⟨by exact ow_91_66 b113, by exact ow_91_67 b113⟩) lm_X12_460 ls_X12_brought (by decide) (by decide) rfl rfl (Nat.le_of_ble_eq_true rfl) ⟨Nat.le_refl _, Or.inl rfl⟩ dX12_called_326 ⟨rfl, hV43⟩ (fun r114 V115 hp116 => ?_)
                                obtain ⟨y117, rfl, b118, rfl, hE119⟩ := hp116
                                replace hb55 := hb55.trans (pf_call_eq hE119)
                                change pm_J X 329 [(6, (0, (x36 - 1))), (12, (0, y81)), (11, (0, y78)), (10, (0, y65)), (9, (0, y62)), (0, (3, 90)), (1, (0, a1)), (2, (0, a2)), (3, (0, a3)), (4, (0, a4)), (5, (0, x34)), (7, (0, x38)), (8, (0, x40))] [(0, y117), (0, ((x36 - 1) - 1)), (3, 117)] 118 V42
                                refine pm_iastore (len := 600) hC 117 rfl rfl (by decide) ⟨by omega, by exact ow_91_68 b37⟩ (by decide) dX12_called_329 ?_
                                obtain ⟨x120, ei121⟩ : ∃ y : Int, x40 + 1 = y := ⟨_, rfl⟩
                                replace hb55 := hb55.trans (pf_let_eq ei121)
                                refine pm_iinc (y := x120) (lv' := [(8, (0, x120)), (6, (0, (x36 - 1))), (12, (0, y81)), (11, (0, y78)), (10, (0, y65)), (9, (0, y62)), (0, (3, 90)), (1, (0, a1)), (2, (0, a2)), (3, (0, a3)), (4, (0, a4)), (5, (0, x34)), (7, (0, x38))]) hC 12 dX12_called_330 (by decide) rfl ei121 rfl ?_
                                refine pm_goto (tgt := 48) hC dX12_called_333 (by decide) ?_
                                refine pm_lvsub [6, 7, 8, 9, 10, 11, 1, 12, 0] (lv' := [(0, (3, 90)), (1, (0, a1)), (2, (0, a2)), (3, (0, a3)), (4, (0, a4)), (5, (0, x34)), (6, (0, (x36 - 1))), (7, (0, x38)), (8, (0, x120))]) rfl ?_
                                exact ih59 _ (by exact ow_91_36 hN hm57 hkN ei121) x34 (x36 - 1) x38 x120 (pm_up V42 117 (((x36 - 1) - 1) : Int).toNat y117) ⟨by exact ow_91_37 b35, by exact ow_91_38 b3 c60⟩ ⟨by omega, by exact ow_91_69 b37⟩ ⟨by exact ow_91_41 b39, by exact ow_91_42 b39⟩ ⟨by exact ow_91_43 b41 ei121, by exact ow_91_44 hN hkN ei121⟩ (hV43.put 117 (((x36 - 1) - 1) : Int).toNat (x := y117) (lo := (-2147483648)) (hi := 2147483647) rfl ⟨by exact ow_91_70 b118, by exact ow_91_71 b118⟩) (hF44.up 117 (((x36 - 1) - 1) : Int).toNat y117 (by decide) rfl) e45 e46 (pm_h1.fr hp47 rfl rfl) (pm_h2.fr hp48 rfl rfl rfl) (pm_r1.fr hp49 rfl rfl) (by rw [show ((x120) : Int).toNat = (x40 : Int).toNat + 1 by exact ow_91_47 b41 ei121]; first | (have q := hcs.2.2.1 (by omega); omega) | (have q := hcs.2.2.2.1 (by omega); omega) | (have q := hcs.2.2.2.2.1 (by omega); omega) | (have q := hcs.2.2.2.2.2 (by omega) (by omega); omega)) (by rw [show ((x120) : Int).toNat = (x40 : Int).toNat + 1 by exact ow_91_47 b41 ei121]; first | (have q := hcs.2.2.1 (by omega); omega) | (have q := hcs.2.2.2.1 (by omega); omega) | (have q := hcs.2.2.2.2.1 (by omega); omega) | (have q := hcs.2.2.2.2.2 (by omega) (by omega); omega)) (by exact ow_91_48 hkN ei121) (hT.trans (pf_val_inl hb55)) rfl
                            · skip
                              replace hb55 := hb55.trans (if_neg (fun q => q c110))
                              refine pm_aload_n hC 5 (by decide) dX12_called_286 rfl ?_
                              refine pm_getf (v := 117) hC 90 fl_X12_91 rfl rfl (by decide) rfl e77 dX12_called_287 ?_
                              refine pm_iload hC 0 dX12_called_290 rfl ?_
                              refine pm_iconst (v := 1) hC dX12_called_292 ?_
                              refine pm_isub hC dX12_called_293 ?_
                              refine pm_iload hC 2 dX12_called_294 rfl ?_
                              refine pm_i2l hC ⟨by exact ow_91_4 b80, by exact ow_91_5 b80⟩ dX12_called_296 ?_
                              refine pm_iload hC 1 dX12_called_297 rfl ?_
                              refine pm_i2l hC ⟨by exact ow_91_4 b83, by exact ow_91_5 b83⟩ dX12_called_299 ?_
                              refine pm_lsub hC dX12_called_300 ?_
                              refine pm_callS (as := [(1, (y78 - y81))]) (st := [(0, ((x36 - 1) - 1)), (3, 117)]) hC (fB_X12_brought (y78 - y81) ⟨by exact ow_91_72 b80 b83, by exact ow_91_73 b80 b83⟩) lm_X12_460 ls_X12_brought (by decide) (by decide) rfl rfl (Nat.le_of_ble_eq_true rfl) ⟨Nat.le_refl _, Or.inl rfl⟩ dX12_called_301 ⟨rfl, hV43⟩ (fun r122 V123 hp124 => ?_)
                              obtain ⟨y125, rfl, b126, rfl, hE127⟩ := hp124
                              replace hb55 := hb55.trans (pf_call_eq hE127)
                              change pm_J X 304 [(6, (0, (x36 - 1))), (12, (0, y81)), (11, (0, y78)), (10, (0, y65)), (9, (0, y62)), (0, (3, 90)), (1, (0, a1)), (2, (0, a2)), (3, (0, a3)), (4, (0, a4)), (5, (0, x34)), (7, (0, x38)), (8, (0, x40))] [(0, y125), (0, ((x36 - 1) - 1)), (3, 117)] 118 V42
                              refine pm_iastore (len := 600) hC 117 rfl rfl (by decide) ⟨by omega, by exact ow_91_68 b37⟩ (by decide) dX12_called_304 ?_
                              refine pm_iload hC 4 dX12_called_305 rfl ?_
                              refine pm_iconst (v := 4) hC dX12_called_307 ?_
                              refine pm_icmp_ne (tgt := 330) hC ⟨by exact ow_91_74 c110, by exact ow_91_75 c110⟩ ⟨by decide, by decide⟩ dX12_called_308 (by decide) (fun c128 => ?_) (fun c128 => ?_)
                              · skip
                                replace hb55 := hb55.trans (if_pos c128)
                                obtain ⟨x129, ei130⟩ : ∃ y : Int, x40 + 1 = y := ⟨_, rfl⟩
                                replace hb55 := hb55.trans (pf_let_eq ei130)
                                refine pm_iinc (y := x129) (lv' := [(8, (0, x129)), (6, (0, (x36 - 1))), (12, (0, y81)), (11, (0, y78)), (10, (0, y65)), (9, (0, y62)), (0, (3, 90)), (1, (0, a1)), (2, (0, a2)), (3, (0, a3)), (4, (0, a4)), (5, (0, x34)), (7, (0, x38))]) hC 12 dX12_called_330 (by decide) rfl ei130 rfl ?_
                                refine pm_goto (tgt := 48) hC dX12_called_333 (by decide) ?_
                                refine pm_lvsub [6, 7, 8, 9, 10, 11, 1, 12, 0] (lv' := [(0, (3, 90)), (1, (0, a1)), (2, (0, a2)), (3, (0, a3)), (4, (0, a4)), (5, (0, x34)), (6, (0, (x36 - 1))), (7, (0, x38)), (8, (0, x129))]) rfl ?_
                                exact ih59 _ (by exact ow_91_36 hN hm57 hkN ei130) x34 (x36 - 1) x38 x129 (pm_up V42 117 (((x36 - 1) - 1) : Int).toNat y125) ⟨by exact ow_91_37 b35, by exact ow_91_38 b3 c60⟩ ⟨by omega, by exact ow_91_69 b37⟩ ⟨by exact ow_91_41 b39, by exact ow_91_42 b39⟩ ⟨by exact ow_91_43 b41 ei130, by exact ow_91_44 hN hkN ei130⟩ (hV43.put 117 (((x36 - 1) - 1) : Int).toNat (x := y125) (lo := (-2147483648)) (hi := 2147483647) rfl ⟨by exact ow_91_70 b126, by exact ow_91_71 b126⟩) (hF44.up 117 (((x36 - 1) - 1) : Int).toNat y125 (by decide) rfl) e45 e46 (pm_h1.fr hp47 rfl rfl) (pm_h2.fr hp48 rfl rfl rfl) (pm_r1.fr hp49 rfl rfl) (by rw [show ((x129) : Int).toNat = (x40 : Int).toNat + 1 by exact ow_91_47 b41 ei130]; first | (have q := hcs.2.2.1 (by omega); omega) | (have q := hcs.2.2.2.1 (by omega); omega) | (have q := hcs.2.2.2.2.1 (by omega); omega) | (have q := hcs.2.2.2.2.2 (by omega) (by omega); omega)) (by rw [show ((x129) : Int).toNat = (x40 : Int).toNat + 1 by exact ow_91_47 b41 ei130]; first | (have q := hcs.2.2.1 (by omega); omega) | (have q := hcs.2.2.2.1 (by omega); omega) | (have q := hcs.2.2.2.2.1 (by omega); omega) | (have q := hcs.2.2.2.2.2 (by omega) (by omega); omega)) (by exact ow_91_48 hkN ei130) (hT.trans (pf_val_inl hb55)) rfl
                              · skip
                                replace hb55 := hb55.trans (if_neg (fun q => q c128))
                                exfalso; exact ow_91_76 c110 c128
                          · skip
                            replace hb55 := hb55.trans (if_neg (fun q => q c109))
                            refine pm_aload_n hC 5 (by decide) dX12_called_261 rfl ?_
                            refine pm_getf (v := 117) hC 90 fl_X12_91 rfl rfl (by decide) rfl e77 dX12_called_262 ?_
                            refine pm_iload hC 0 dX12_called_265 rfl ?_
                            refine pm_iconst (v := 1) hC dX12_called_267 ?_
                            refine pm_isub hC dX12_called_268 ?_
                            refine pm_iload hC 2 dX12_called_269 rfl ?_
                            refine pm_i2l hC ⟨by exact ow_91_4 b80, by exact ow_91_5 b80⟩ dX12_called_271 ?_
                            refine pm_iload hC 1 dX12_called_272 rfl ?_
                            refine pm_i2l hC ⟨by exact ow_91_4 b83, by exact ow_91_5 b83⟩ dX12_called_274 ?_
                            refine pm_ladd hC dX12_called_275 ?_
                            refine pm_callS (as := [(1, (y78 + y81))]) (st := [(0, ((x36 - 1) - 1)), (3, 117)]) hC (fB_X12_brought (y78 + y81) ⟨by exact ow_91_77 b80 b83, by exact ow_91_78 b80 b83⟩) lm_X12_460 ls_X12_brought (by decide) (by decide) rfl rfl (Nat.le_of_ble_eq_true rfl) ⟨Nat.le_refl _, Or.inl rfl⟩ dX12_called_276 ⟨rfl, hV43⟩ (fun r131 V132 hp133 => ?_)
                            obtain ⟨y134, rfl, b135, rfl, hE136⟩ := hp133
                            replace hb55 := hb55.trans (pf_call_eq hE136)
                            change pm_J X 279 [(6, (0, (x36 - 1))), (12, (0, y81)), (11, (0, y78)), (10, (0, y65)), (9, (0, y62)), (0, (3, 90)), (1, (0, a1)), (2, (0, a2)), (3, (0, a3)), (4, (0, a4)), (5, (0, x34)), (7, (0, x38)), (8, (0, x40))] [(0, y134), (0, ((x36 - 1) - 1)), (3, 117)] 118 V42
                            refine pm_iastore (len := 600) hC 117 rfl rfl (by decide) ⟨by omega, by exact ow_91_68 b37⟩ (by decide) dX12_called_279 ?_
                            refine pm_iload hC 4 dX12_called_280 rfl ?_
                            refine pm_iconst (v := 3) hC dX12_called_282 ?_
                            refine pm_icmp_ne (tgt := 305) hC ⟨by exact ow_91_79 c109, by exact ow_91_80 c109⟩ ⟨by decide, by decide⟩ dX12_called_283 (by decide) (fun c137 => ?_) (fun c137 => ?_)
                            · skip
                              replace hb55 := hb55.trans (if_pos c137)
                              refine pm_iload hC 4 dX12_called_305 rfl ?_
                              refine pm_iconst (v := 4) hC dX12_called_307 ?_
                              refine pm_icmp_ne (tgt := 330) hC ⟨by exact ow_91_79 c109, by exact ow_91_80 c109⟩ ⟨by decide, by decide⟩ dX12_called_308 (by decide) (fun c138 => ?_) (fun c138 => ?_)
                              · skip
                                replace hb55 := hb55.trans (if_pos c138)
                                obtain ⟨x139, ei140⟩ : ∃ y : Int, x40 + 1 = y := ⟨_, rfl⟩
                                replace hb55 := hb55.trans (pf_let_eq ei140)
                                refine pm_iinc (y := x139) (lv' := [(8, (0, x139)), (6, (0, (x36 - 1))), (12, (0, y81)), (11, (0, y78)), (10, (0, y65)), (9, (0, y62)), (0, (3, 90)), (1, (0, a1)), (2, (0, a2)), (3, (0, a3)), (4, (0, a4)), (5, (0, x34)), (7, (0, x38))]) hC 12 dX12_called_330 (by decide) rfl ei140 rfl ?_
                                refine pm_goto (tgt := 48) hC dX12_called_333 (by decide) ?_
                                refine pm_lvsub [6, 7, 8, 9, 10, 11, 1, 12, 0] (lv' := [(0, (3, 90)), (1, (0, a1)), (2, (0, a2)), (3, (0, a3)), (4, (0, a4)), (5, (0, x34)), (6, (0, (x36 - 1))), (7, (0, x38)), (8, (0, x139))]) rfl ?_
                                exact ih59 _ (by exact ow_91_36 hN hm57 hkN ei140) x34 (x36 - 1) x38 x139 (pm_up V42 117 (((x36 - 1) - 1) : Int).toNat y134) ⟨by exact ow_91_37 b35, by exact ow_91_38 b3 c60⟩ ⟨by omega, by exact ow_91_69 b37⟩ ⟨by exact ow_91_41 b39, by exact ow_91_42 b39⟩ ⟨by exact ow_91_43 b41 ei140, by exact ow_91_44 hN hkN ei140⟩ (hV43.put 117 (((x36 - 1) - 1) : Int).toNat (x := y134) (lo := (-2147483648)) (hi := 2147483647) rfl ⟨by exact ow_91_70 b135, by exact ow_91_71 b135⟩) (hF44.up 117 (((x36 - 1) - 1) : Int).toNat y134 (by decide) rfl) e45 e46 (pm_h1.fr hp47 rfl rfl) (pm_h2.fr hp48 rfl rfl rfl) (pm_r1.fr hp49 rfl rfl) (by rw [show ((x139) : Int).toNat = (x40 : Int).toNat + 1 by exact ow_91_47 b41 ei140]; first | (have q := hcs.2.2.1 (by omega); omega) | (have q := hcs.2.2.2.1 (by omega); omega) | (have q := hcs.2.2.2.2.1 (by omega); omega) | (have q := hcs.2.2.2.2.2 (by omega) (by omega); omega)) (by rw [show ((x139) : Int).toNat = (x40 : Int).toNat + 1 by exact ow_91_47 b41 ei140]; first | (have q := hcs.2.2.1 (by omega); omega) | (have q := hcs.2.2.2.1 (by omega); omega) | (have q := hcs.2.2.2.2.1 (by omega); omega) | (have q := hcs.2.2.2.2.2 (by omega) (by omega); omega)) (by exact ow_91_48 hkN ei140) (hT.trans (pf_val_inl hb55)) rfl
                              · skip
                                replace hb55 := hb55.trans (if_neg (fun q => q c138))
                                exfalso; exact ow_91_81 c109 c138
                            · skip
                              replace hb55 := hb55.trans (if_neg (fun q => q c137))
                              exfalso; exact ow_91_82 c109 c137
                        · skip
                          replace hb55 := hb55.trans (if_neg (fun q => q c108))
                          exfalso; exact ow_91_83 c106 c108
                      · skip
                        replace hb55 := hb55.trans (if_neg (fun q => q c107))
                        refine pm_iload hC 11 dX12_called_210 rfl ?_
                        refine pm_if_eq (tgt := 226) hC ⟨by exact ow_91_58 b39, by exact ow_91_59 b39⟩ dX12_called_212 (by decide) (fun c141 => ?_) (fun c141 => ?_)
                        · skip
                          replace hb55 := hb55.trans (if_pos c141)
                          refine pm_iconst (v := 0) hC dX12_called_226 ?_
                          refine pm_istore (lv' := [(7, (0, 0)), (6, (0, (x36 - 1))), (12, (0, y81)), (11, (0, y78)), (10, (0, y65)), (9, (0, y62)), (0, (3, 90)), (1, (0, a1)), (2, (0, a2)), (3, (0, a3)), (4, (0, a4)), (5, (0, x34)), (8, (0, x40))]) hC dX12_called_227 (by decide) rfl ?_
                          refine pm_iload hC 5 dX12_called_229 rfl ?_
                          refine pm_bipush (v := 6) hC dX12_called_231 (by decide) ?_
                          refine pm_icmp_ne (tgt := 255) hC ⟨by exact ow_91_55 c107, by exact ow_91_56 c107⟩ ⟨by decide, by decide⟩ dX12_called_233 (by decide) (fun c142 => ?_) (fun c142 => ?_)
                          · skip
                            replace hb55 := hb55.trans (if_pos c142)
                            refine pm_iload hC 5 dX12_called_255 rfl ?_
                            refine pm_iconst (v := 2) hC dX12_called_257 ?_
                            refine pm_icmp_ne (tgt := 280) hC ⟨by exact ow_91_55 c107, by exact ow_91_56 c107⟩ ⟨by decide, by decide⟩ dX12_called_258 (by decide) (fun c143 => ?_) (fun c143 => ?_)
                            · skip
                              replace hb55 := hb55.trans (if_pos c143)
                              refine pm_iload hC 5 dX12_called_280 rfl ?_
                              refine pm_iconst (v := 3) hC dX12_called_282 ?_
                              refine pm_icmp_ne (tgt := 305) hC ⟨by exact ow_91_55 c107, by exact ow_91_56 c107⟩ ⟨by decide, by decide⟩ dX12_called_283 (by decide) (fun c144 => ?_) (fun c144 => ?_)
                              · skip
                                replace hb55 := hb55.trans (if_pos c144)
                                refine pm_iload hC 5 dX12_called_305 rfl ?_
                                refine pm_iconst (v := 4) hC dX12_called_307 ?_
                                refine pm_icmp_ne (tgt := 330) hC ⟨by exact ow_91_55 c107, by exact ow_91_56 c107⟩ ⟨by decide, by decide⟩ dX12_called_308 (by decide) (fun c145 => ?_) (fun c145 => ?_)
                                · skip
                                  replace hb55 := hb55.trans (if_pos c145)
                                  obtain ⟨x146, ei147⟩ : ∃ y : Int, x40 + 1 = y := ⟨_, rfl⟩
                                  replace hb55 := hb55.trans (pf_let_eq ei147)
                                  refine pm_iinc (y := x146) (lv' := [(8, (0, x146)), (7, (0, 0)), (6, (0, (x36 - 1))), (12, (0, y81)), (11, (0, y78)), (10, (0, y65)), (9, (0, y62)), (0, (3, 90)), (1, (0, a1)), (2, (0, a2)), (3, (0, a3)), (4, (0, a4)), (5, (0, x34))]) hC 12 dX12_called_330 (by decide) rfl ei147 rfl ?_
                                  refine pm_goto (tgt := 48) hC dX12_called_333 (by decide) ?_
                                  refine pm_lvsub [7, 8, 9, 10, 11, 12, 2, 1, 0] (lv' := [(0, (3, 90)), (1, (0, a1)), (2, (0, a2)), (3, (0, a3)), (4, (0, a4)), (5, (0, x34)), (6, (0, (x36 - 1))), (7, (0, 0)), (8, (0, x146))]) rfl ?_
                                  exact ih59 _ (by exact ow_91_36 hN hm57 hkN ei147) x34 (x36 - 1) 0 x146 V42 ⟨by exact ow_91_37 b35, by exact ow_91_38 b3 c60⟩ ⟨by exact ow_91_84 c84 c107, by exact ow_91_69 b37⟩ ⟨by decide, by decide⟩ ⟨by exact ow_91_43 b41 ei147, by exact ow_91_44 hN hkN ei147⟩ hV43 hF44 e45 e46 hp47 hp48 hp49 (by rw [show ((x146) : Int).toNat = (x40 : Int).toNat + 1 by exact ow_91_85 c84 c107]; first | (have q := hcs.2.2.1 (by exact ow_91_86 c84 c107); exact ow_91_87 c84 c107) | (have q := hcs.2.2.2.1 (by omega); omega) | (have q := hcs.2.2.2.2.1 (by omega); omega) | (have q := hcs.2.2.2.2.2 (by omega) (by omega); omega)) (by rw [show ((x146) : Int).toNat = (x40 : Int).toNat + 1 by exact ow_91_85 c84 c107]; first | (have q := hcs.2.2.1 (by exact ow_91_86 c84 c107); exact ow_91_88 c84 c107) | (have q := hcs.2.2.2.1 (by omega); omega) | (have q := hcs.2.2.2.2.1 (by omega); omega) | (have q := hcs.2.2.2.2.2 (by omega) (by omega); omega)) (by exact ow_91_48 hkN ei147) (hT.trans (pf_val_inl hb55)) rfl
                                · skip
                                  replace hb55 := hb55.trans (if_neg (fun q => q c145))
                                  exfalso; exact ow_91_61 c107 c145
                              · skip
                                replace hb55 := hb55.trans (if_neg (fun q => q c144))
                                exfalso; exact ow_91_62 c107 c144
                            · skip
                              replace hb55 := hb55.trans (if_neg (fun q => q c143))
                              exfalso; exact ow_91_63 c107 c143
                          · skip
                            replace hb55 := hb55.trans (if_neg (fun q => q c142))
                            exfalso; exact ow_91_64 c107 c142
                        · skip
                          replace hb55 := hb55.trans (if_neg c141)
                          refine pm_iload hC 2 dX12_called_215 rfl ?_
                          refine pm_iload hC 1 dX12_called_217 rfl ?_
                          refine pm_icmp_ge (tgt := 226) hC ⟨by exact ow_91_4 b80, by exact ow_91_5 b80⟩ ⟨by exact ow_91_4 b83, by exact ow_91_5 b83⟩ dX12_called_219 (by decide) (fun c148 => ?_) (fun c148 => ?_)
                          · skip
                            replace hb55 := hb55.trans (if_pos c148)
                            refine pm_iconst (v := 0) hC dX12_called_226 ?_
                            refine pm_istore (lv' := [(7, (0, 0)), (6, (0, (x36 - 1))), (12, (0, y81)), (11, (0, y78)), (10, (0, y65)), (9, (0, y62)), (0, (3, 90)), (1, (0, a1)), (2, (0, a2)), (3, (0, a3)), (4, (0, a4)), (5, (0, x34)), (8, (0, x40))]) hC dX12_called_227 (by decide) rfl ?_
                            refine pm_iload hC 5 dX12_called_229 rfl ?_
                            refine pm_bipush (v := 6) hC dX12_called_231 (by decide) ?_
                            refine pm_icmp_ne (tgt := 255) hC ⟨by exact ow_91_55 c107, by exact ow_91_56 c107⟩ ⟨by decide, by decide⟩ dX12_called_233 (by decide) (fun c149 => ?_) (fun c149 => ?_)
                            · skip
                              replace hb55 := hb55.trans (if_pos c149)
                              refine pm_iload hC 5 dX12_called_255 rfl ?_
                              refine pm_iconst (v := 2) hC dX12_called_257 ?_
                              refine pm_icmp_ne (tgt := 280) hC ⟨by exact ow_91_55 c107, by exact ow_91_56 c107⟩ ⟨by decide, by decide⟩ dX12_called_258 (by decide) (fun c150 => ?_) (fun c150 => ?_)
                              · skip
                                replace hb55 := hb55.trans (if_pos c150)
                                refine pm_iload hC 5 dX12_called_280 rfl ?_
                                refine pm_iconst (v := 3) hC dX12_called_282 ?_
                                refine pm_icmp_ne (tgt := 305) hC ⟨by exact ow_91_55 c107, by exact ow_91_56 c107⟩ ⟨by decide, by decide⟩ dX12_called_283 (by decide) (fun c151 => ?_) (fun c151 => ?_)
                                · skip
                                  replace hb55 := hb55.trans (if_pos c151)
                                  refine pm_iload hC 5 dX12_called_305 rfl ?_
                                  refine pm_iconst (v := 4) hC dX12_called_307 ?_
                                  refine pm_icmp_ne (tgt := 330) hC ⟨by exact ow_91_55 c107, by exact ow_91_56 c107⟩ ⟨by decide, by decide⟩ dX12_called_308 (by decide) (fun c152 => ?_) (fun c152 => ?_)
                                  · skip
                                    replace hb55 := hb55.trans (if_pos c152)
                                    obtain ⟨x153, ei154⟩ : ∃ y : Int, x40 + 1 = y := ⟨_, rfl⟩
                                    replace hb55 := hb55.trans (pf_let_eq ei154)
                                    refine pm_iinc (y := x153) (lv' := [(8, (0, x153)), (7, (0, 0)), (6, (0, (x36 - 1))), (12, (0, y81)), (11, (0, y78)), (10, (0, y65)), (9, (0, y62)), (0, (3, 90)), (1, (0, a1)), (2, (0, a2)), (3, (0, a3)), (4, (0, a4)), (5, (0, x34))]) hC 12 dX12_called_330 (by decide) rfl ei154 rfl ?_
                                    refine pm_goto (tgt := 48) hC dX12_called_333 (by decide) ?_
                                    refine pm_lvsub [7, 8, 9, 10, 11, 12, 2, 1, 0] (lv' := [(0, (3, 90)), (1, (0, a1)), (2, (0, a2)), (3, (0, a3)), (4, (0, a4)), (5, (0, x34)), (6, (0, (x36 - 1))), (7, (0, 0)), (8, (0, x153))]) rfl ?_
                                    exact ih59 _ (by exact ow_91_36 hN hm57 hkN ei154) x34 (x36 - 1) 0 x153 V42 ⟨by exact ow_91_37 b35, by exact ow_91_38 b3 c60⟩ ⟨by exact ow_91_84 c84 c107, by exact ow_91_69 b37⟩ ⟨by decide, by decide⟩ ⟨by exact ow_91_43 b41 ei154, by exact ow_91_44 hN hkN ei154⟩ hV43 hF44 e45 e46 hp47 hp48 hp49 (by rw [show ((x153) : Int).toNat = (x40 : Int).toNat + 1 by exact ow_91_85 c84 c107]; first | (have q := hcs.2.2.1 (by exact ow_91_86 c84 c107); exact ow_91_87 c84 c107) | (have q := hcs.2.2.2.1 (by omega); omega) | (have q := hcs.2.2.2.2.1 (by omega); omega) | (have q := hcs.2.2.2.2.2 (by omega) (by omega); omega)) (by rw [show ((x153) : Int).toNat = (x40 : Int).toNat + 1 by exact ow_91_85 c84 c107]; first | (have q := hcs.2.2.1 (by exact ow_91_86 c84 c107); exact ow_91_88 c84 c107) | (have q := hcs.2.2.2.1 (by omega); omega) | (have q := hcs.2.2.2.2.1 (by omega); omega) | (have q := hcs.2.2.2.2.2 (by omega) (by omega); omega)) (by exact ow_91_48 hkN ei154) (hT.trans (pf_val_inl hb55)) rfl
                                  · skip
                                    replace hb55 := hb55.trans (if_neg (fun q => q c152))
                                    exfalso; exact ow_91_61 c107 c152
                                · skip
                                  replace hb55 := hb55.trans (if_neg (fun q => q c151))
                                  exfalso; exact ow_91_62 c107 c151
                              · skip
                                replace hb55 := hb55.trans (if_neg (fun q => q c150))
                                exfalso; exact ow_91_63 c107 c150
                            · skip
                              replace hb55 := hb55.trans (if_neg (fun q => q c149))
                              exfalso; exact ow_91_64 c107 c149
                          · skip
                            replace hb55 := hb55.trans (if_neg (Int.not_le.mpr c148))
                            refine pm_iconst (v := 1) hC dX12_called_222 ?_
                            refine pm_goto (tgt := 227) hC dX12_called_223 (by decide) ?_
                            refine pm_istore (lv' := [(7, (0, 1)), (6, (0, (x36 - 1))), (12, (0, y81)), (11, (0, y78)), (10, (0, y65)), (9, (0, y62)), (0, (3, 90)), (1, (0, a1)), (2, (0, a2)), (3, (0, a3)), (4, (0, a4)), (5, (0, x34)), (8, (0, x40))]) hC dX12_called_227 (by decide) rfl ?_
                            refine pm_iload hC 5 dX12_called_229 rfl ?_
                            refine pm_bipush (v := 6) hC dX12_called_231 (by decide) ?_
                            refine pm_icmp_ne (tgt := 255) hC ⟨by exact ow_91_55 c107, by exact ow_91_56 c107⟩ ⟨by decide, by decide⟩ dX12_called_233 (by decide) (fun c155 => ?_) (fun c155 => ?_)
                            · skip
                              replace hb55 := hb55.trans (if_pos c155)
                              refine pm_iload hC 5 dX12_called_255 rfl ?_
                              refine pm_iconst (v := 2) hC dX12_called_257 ?_
                              refine pm_icmp_ne (tgt := 280) hC ⟨by exact ow_91_55 c107, by exact ow_91_56 c107⟩ ⟨by decide, by decide⟩ dX12_called_258 (by decide) (fun c156 => ?_) (fun c156 => ?_)
                              · skip
                                replace hb55 := hb55.trans (if_pos c156)
                                refine pm_iload hC 5 dX12_called_280 rfl ?_
                                refine pm_iconst (v := 3) hC dX12_called_282 ?_
                                refine pm_icmp_ne (tgt := 305) hC ⟨by exact ow_91_55 c107, by exact ow_91_56 c107⟩ ⟨by decide, by decide⟩ dX12_called_283 (by decide) (fun c157 => ?_) (fun c157 => ?_)
                                · skip
                                  replace hb55 := hb55.trans (if_pos c157)
                                  refine pm_iload hC 5 dX12_called_305 rfl ?_
                                  refine pm_iconst (v := 4) hC dX12_called_307 ?_
                                  refine pm_icmp_ne (tgt := 330) hC ⟨by exact ow_91_55 c107, by exact ow_91_56 c107⟩ ⟨by decide, by decide⟩ dX12_called_308 (by decide) (fun c158 => ?_) (fun c158 => ?_)
                                  · skip
                                    replace hb55 := hb55.trans (if_pos c158)
                                    obtain ⟨x159, ei160⟩ : ∃ y : Int, x40 + 1 = y := ⟨_, rfl⟩
                                    replace hb55 := hb55.trans (pf_let_eq ei160)
                                    refine pm_iinc (y := x159) (lv' := [(8, (0, x159)), (7, (0, 1)), (6, (0, (x36 - 1))), (12, (0, y81)), (11, (0, y78)), (10, (0, y65)), (9, (0, y62)), (0, (3, 90)), (1, (0, a1)), (2, (0, a2)), (3, (0, a3)), (4, (0, a4)), (5, (0, x34))]) hC 12 dX12_called_330 (by decide) rfl ei160 rfl ?_
                                    refine pm_goto (tgt := 48) hC dX12_called_333 (by decide) ?_
                                    refine pm_lvsub [7, 8, 9, 10, 11, 12, 2, 1, 0] (lv' := [(0, (3, 90)), (1, (0, a1)), (2, (0, a2)), (3, (0, a3)), (4, (0, a4)), (5, (0, x34)), (6, (0, (x36 - 1))), (7, (0, 1)), (8, (0, x159))]) rfl ?_
                                    exact ih59 _ (by exact ow_91_36 hN hm57 hkN ei160) x34 (x36 - 1) 1 x159 V42 ⟨by exact ow_91_37 b35, by exact ow_91_38 b3 c60⟩ ⟨by exact ow_91_84 c84 c107, by exact ow_91_69 b37⟩ ⟨by decide, by decide⟩ ⟨by exact ow_91_43 b41 ei160, by exact ow_91_44 hN hkN ei160⟩ hV43 hF44 e45 e46 hp47 hp48 hp49 (by rw [show ((x159) : Int).toNat = (x40 : Int).toNat + 1 by exact ow_91_85 c84 c107]; first | (have q := hcs.2.2.1 (by exact ow_91_86 c84 c107); exact ow_91_87 c84 c107) | (have q := hcs.2.2.2.1 (by omega); omega) | (have q := hcs.2.2.2.2.1 (by omega); omega) | (have q := hcs.2.2.2.2.2 (by omega) (by omega); omega)) (by rw [show ((x159) : Int).toNat = (x40 : Int).toNat + 1 by exact ow_91_85 c84 c107]; first | (have q := hcs.2.2.1 (by exact ow_91_86 c84 c107); exact ow_91_88 c84 c107) | (have q := hcs.2.2.2.1 (by omega); omega) | (have q := hcs.2.2.2.2.1 (by omega); omega) | (have q := hcs.2.2.2.2.2 (by omega) (by omega); omega)) (by exact ow_91_48 hkN ei160) (hT.trans (pf_val_inl hb55)) rfl
                                  · skip
                                    replace hb55 := hb55.trans (if_neg (fun q => q c158))
                                    exfalso; exact ow_91_61 c107 c158
                                · skip
                                  replace hb55 := hb55.trans (if_neg (fun q => q c157))
                                  exfalso; exact ow_91_62 c107 c157
                              · skip
                                replace hb55 := hb55.trans (if_neg (fun q => q c156))
                                exfalso; exact ow_91_63 c107 c156
                            · skip
                              replace hb55 := hb55.trans (if_neg (fun q => q c155))
                              exfalso; exact ow_91_64 c107 c155
                    · skip
                      replace hb55 := hb55.trans (if_neg (fun q => q c106))
                      refine pm_iconst (v := 2) hC dX12_called_196 ?_
                      refine pm_goto (tgt := 201) hC dX12_called_197 (by decide) ?_
                      refine pm_isub hC dX12_called_201 ?_
                      refine pm_istore (lv' := [(6, (0, (x36 - 2))), (12, (0, y81)), (11, (0, y78)), (10, (0, y65)), (9, (0, y62)), (0, (3, 90)), (1, (0, a1)), (2, (0, a2)), (3, (0, a3)), (4, (0, a4)), (5, (0, x34)), (7, (0, x38)), (8, (0, x40))]) hC dX12_called_202 (by decide) rfl ?_
                      refine pm_iload hC 4 dX12_called_204 rfl ?_
                      refine pm_iconst (v := 5) hC dX12_called_206 ?_
                      refine pm_icmp_ne (tgt := 229) hC ⟨by exact ow_91_89 c106, by exact ow_91_90 c106⟩ ⟨by decide, by decide⟩ dX12_called_207 (by decide) (fun c161 => ?_) (fun c161 => ?_)
                      · skip
                        replace hb55 := hb55.trans (if_pos c161)
                        refine pm_iload hC 4 dX12_called_229 rfl ?_
                        refine pm_bipush (v := 6) hC dX12_called_231 (by decide) ?_
                        refine pm_icmp_ne (tgt := 255) hC ⟨by exact ow_91_89 c106, by exact ow_91_90 c106⟩ ⟨by decide, by decide⟩ dX12_called_233 (by decide) (fun c162 => ?_) (fun c162 => ?_)
                        · skip
                          replace hb55 := hb55.trans (if_pos c162)
                          exfalso; exact ow_91_91 c106 c162
                        · skip
                          replace hb55 := hb55.trans (if_neg (fun q => q c162))
                          refine pm_iload hC 11 dX12_called_236 rfl ?_
                          refine pm_if_eq (tgt := 252) hC ⟨by exact ow_91_58 b39, by exact ow_91_59 b39⟩ dX12_called_238 (by decide) (fun c163 => ?_) (fun c163 => ?_)
                          · skip
                            replace hb55 := hb55.trans (if_pos c163)
                            refine pm_iconst (v := 0) hC dX12_called_252 ?_
                            refine pm_istore (lv' := [(7, (0, 0)), (6, (0, (x36 - 2))), (12, (0, y81)), (11, (0, y78)), (10, (0, y65)), (9, (0, y62)), (0, (3, 90)), (1, (0, a1)), (2, (0, a2)), (3, (0, a3)), (4, (0, a4)), (5, (0, x34)), (8, (0, x40))]) hC dX12_called_253 (by decide) rfl ?_
                            refine pm_iload hC 5 dX12_called_255 rfl ?_
                            refine pm_iconst (v := 2) hC dX12_called_257 ?_
                            refine pm_icmp_ne (tgt := 280) hC ⟨by exact ow_91_89 c106, by exact ow_91_90 c106⟩ ⟨by decide, by decide⟩ dX12_called_258 (by decide) (fun c164 => ?_) (fun c164 => ?_)
                            · skip
                              replace hb55 := hb55.trans (if_pos c164)
                              refine pm_iload hC 5 dX12_called_280 rfl ?_
                              refine pm_iconst (v := 3) hC dX12_called_282 ?_
                              refine pm_icmp_ne (tgt := 305) hC ⟨by exact ow_91_89 c106, by exact ow_91_90 c106⟩ ⟨by decide, by decide⟩ dX12_called_283 (by decide) (fun c165 => ?_) (fun c165 => ?_)
                              · skip
                                replace hb55 := hb55.trans (if_pos c165)
                                refine pm_iload hC 5 dX12_called_305 rfl ?_
                                refine pm_iconst (v := 4) hC dX12_called_307 ?_
                                refine pm_icmp_ne (tgt := 330) hC ⟨by exact ow_91_89 c106, by exact ow_91_90 c106⟩ ⟨by decide, by decide⟩ dX12_called_308 (by decide) (fun c166 => ?_) (fun c166 => ?_)
                                · skip
                                  replace hb55 := hb55.trans (if_pos c166)
                                  obtain ⟨x167, ei168⟩ : ∃ y : Int, x40 + 1 = y := ⟨_, rfl⟩
                                  replace hb55 := hb55.trans (pf_let_eq ei168)
                                  refine pm_iinc (y := x167) (lv' := [(8, (0, x167)), (7, (0, 0)), (6, (0, (x36 - 2))), (12, (0, y81)), (11, (0, y78)), (10, (0, y65)), (9, (0, y62)), (0, (3, 90)), (1, (0, a1)), (2, (0, a2)), (3, (0, a3)), (4, (0, a4)), (5, (0, x34))]) hC 12 dX12_called_330 (by decide) rfl ei168 rfl ?_
                                  refine pm_goto (tgt := 48) hC dX12_called_333 (by decide) ?_
                                  refine pm_lvsub [7, 8, 9, 10, 11, 12, 2, 1, 0] (lv' := [(0, (3, 90)), (1, (0, a1)), (2, (0, a2)), (3, (0, a3)), (4, (0, a4)), (5, (0, x34)), (6, (0, (x36 - 2))), (7, (0, 0)), (8, (0, x167))]) rfl ?_
                                  exact ih59 _ (by exact ow_91_36 hN hm57 hkN ei168) x34 (x36 - 2) 0 x167 V42 ⟨by exact ow_91_37 b35, by exact ow_91_38 b3 c60⟩ ⟨by omega, by exact ow_91_60 b37⟩ ⟨by decide, by decide⟩ ⟨by exact ow_91_43 b41 ei168, by exact ow_91_44 hN hkN ei168⟩ hV43 hF44 e45 e46 hp47 hp48 hp49 (by rw [show ((x167) : Int).toNat = (x40 : Int).toNat + 1 by exact ow_91_47 b41 ei168]; first | (have q := hcs.2.2.1 (by omega); omega) | (have q := hcs.2.2.2.1 (by omega); omega) | (have q := hcs.2.2.2.2.1 (by omega); omega) | (have q := hcs.2.2.2.2.2 (by omega) (by omega); omega)) (by rw [show ((x167) : Int).toNat = (x40 : Int).toNat + 1 by exact ow_91_47 b41 ei168]; first | (have q := hcs.2.2.1 (by omega); omega) | (have q := hcs.2.2.2.1 (by omega); omega) | (have q := hcs.2.2.2.2.1 (by omega); omega) | (have q := hcs.2.2.2.2.2 (by omega) (by omega); omega)) (by exact ow_91_48 hkN ei168) (hT.trans (pf_val_inl hb55)) rfl
                                · skip
                                  replace hb55 := hb55.trans (if_neg (fun q => q c166))
                                  exfalso; exact ow_91_92 c106 c166
                              · skip
                                replace hb55 := hb55.trans (if_neg (fun q => q c165))
                                exfalso; exact ow_91_93 c106 c165
                            · skip
                              replace hb55 := hb55.trans (if_neg (fun q => q c164))
                              exfalso; exact ow_91_94 c106 c164
                          · skip
                            replace hb55 := hb55.trans (if_neg c163)
                            refine pm_iload hC 2 dX12_called_241 rfl ?_
                            refine pm_iload hC 1 dX12_called_243 rfl ?_
                            refine pm_icmp_ne (tgt := 252) hC ⟨by exact ow_91_4 b80, by exact ow_91_5 b80⟩ ⟨by exact ow_91_4 b83, by exact ow_91_5 b83⟩ dX12_called_245 (by decide) (fun c169 => ?_) (fun c169 => ?_)
                            · skip
                              replace hb55 := hb55.trans (if_pos c169)
                              refine pm_iconst (v := 0) hC dX12_called_252 ?_
                              refine pm_istore (lv' := [(7, (0, 0)), (6, (0, (x36 - 2))), (12, (0, y81)), (11, (0, y78)), (10, (0, y65)), (9, (0, y62)), (0, (3, 90)), (1, (0, a1)), (2, (0, a2)), (3, (0, a3)), (4, (0, a4)), (5, (0, x34)), (8, (0, x40))]) hC dX12_called_253 (by decide) rfl ?_
                              refine pm_iload hC 5 dX12_called_255 rfl ?_
                              refine pm_iconst (v := 2) hC dX12_called_257 ?_
                              refine pm_icmp_ne (tgt := 280) hC ⟨by exact ow_91_89 c106, by exact ow_91_90 c106⟩ ⟨by decide, by decide⟩ dX12_called_258 (by decide) (fun c170 => ?_) (fun c170 => ?_)
                              · skip
                                replace hb55 := hb55.trans (if_pos c170)
                                refine pm_iload hC 5 dX12_called_280 rfl ?_
                                refine pm_iconst (v := 3) hC dX12_called_282 ?_
                                refine pm_icmp_ne (tgt := 305) hC ⟨by exact ow_91_89 c106, by exact ow_91_90 c106⟩ ⟨by decide, by decide⟩ dX12_called_283 (by decide) (fun c171 => ?_) (fun c171 => ?_)
                                · skip
                                  replace hb55 := hb55.trans (if_pos c171)
                                  refine pm_iload hC 5 dX12_called_305 rfl ?_
                                  refine pm_iconst (v := 4) hC dX12_called_307 ?_
                                  refine pm_icmp_ne (tgt := 330) hC ⟨by exact ow_91_89 c106, by exact ow_91_90 c106⟩ ⟨by decide, by decide⟩ dX12_called_308 (by decide) (fun c172 => ?_) (fun c172 => ?_)
                                  · skip
                                    replace hb55 := hb55.trans (if_pos c172)
                                    obtain ⟨x173, ei174⟩ : ∃ y : Int, x40 + 1 = y := ⟨_, rfl⟩
                                    replace hb55 := hb55.trans (pf_let_eq ei174)
                                    refine pm_iinc (y := x173) (lv' := [(8, (0, x173)), (7, (0, 0)), (6, (0, (x36 - 2))), (12, (0, y81)), (11, (0, y78)), (10, (0, y65)), (9, (0, y62)), (0, (3, 90)), (1, (0, a1)), (2, (0, a2)), (3, (0, a3)), (4, (0, a4)), (5, (0, x34))]) hC 12 dX12_called_330 (by decide) rfl ei174 rfl ?_
                                    refine pm_goto (tgt := 48) hC dX12_called_333 (by decide) ?_
                                    refine pm_lvsub [7, 8, 9, 10, 11, 12, 2, 1, 0] (lv' := [(0, (3, 90)), (1, (0, a1)), (2, (0, a2)), (3, (0, a3)), (4, (0, a4)), (5, (0, x34)), (6, (0, (x36 - 2))), (7, (0, 0)), (8, (0, x173))]) rfl ?_
                                    exact ih59 _ (by exact ow_91_36 hN hm57 hkN ei174) x34 (x36 - 2) 0 x173 V42 ⟨by exact ow_91_37 b35, by exact ow_91_38 b3 c60⟩ ⟨by omega, by exact ow_91_60 b37⟩ ⟨by decide, by decide⟩ ⟨by exact ow_91_43 b41 ei174, by exact ow_91_44 hN hkN ei174⟩ hV43 hF44 e45 e46 hp47 hp48 hp49 (by rw [show ((x173) : Int).toNat = (x40 : Int).toNat + 1 by exact ow_91_47 b41 ei174]; first | (have q := hcs.2.2.1 (by omega); omega) | (have q := hcs.2.2.2.1 (by omega); omega) | (have q := hcs.2.2.2.2.1 (by omega); omega) | (have q := hcs.2.2.2.2.2 (by omega) (by omega); omega)) (by rw [show ((x173) : Int).toNat = (x40 : Int).toNat + 1 by exact ow_91_47 b41 ei174]; first | (have q := hcs.2.2.1 (by omega); omega) | (have q := hcs.2.2.2.1 (by omega); omega) | (have q := hcs.2.2.2.2.1 (by omega); omega) | (have q := hcs.2.2.2.2.2 (by omega) (by omega); omega)) (by exact ow_91_48 hkN ei174) (hT.trans (pf_val_inl hb55)) rfl
                                  · skip
                                    replace hb55 := hb55.trans (if_neg (fun q => q c172))
                                    exfalso; exact ow_91_92 c106 c172
                                · skip
                                  replace hb55 := hb55.trans (if_neg (fun q => q c171))
                                  exfalso; exact ow_91_93 c106 c171
                              · skip
                                replace hb55 := hb55.trans (if_neg (fun q => q c170))
                                exfalso; exact ow_91_94 c106 c170
                            · skip
                              replace hb55 := hb55.trans (if_neg (fun q => q c169))
                              refine pm_iconst (v := 1) hC dX12_called_248 ?_
                              refine pm_goto (tgt := 253) hC dX12_called_249 (by decide) ?_
                              refine pm_istore (lv' := [(7, (0, 1)), (6, (0, (x36 - 2))), (12, (0, y81)), (11, (0, y78)), (10, (0, y65)), (9, (0, y62)), (0, (3, 90)), (1, (0, a1)), (2, (0, a2)), (3, (0, a3)), (4, (0, a4)), (5, (0, x34)), (8, (0, x40))]) hC dX12_called_253 (by decide) rfl ?_
                              refine pm_iload hC 5 dX12_called_255 rfl ?_
                              refine pm_iconst (v := 2) hC dX12_called_257 ?_
                              refine pm_icmp_ne (tgt := 280) hC ⟨by exact ow_91_89 c106, by exact ow_91_90 c106⟩ ⟨by decide, by decide⟩ dX12_called_258 (by decide) (fun c175 => ?_) (fun c175 => ?_)
                              · skip
                                replace hb55 := hb55.trans (if_pos c175)
                                refine pm_iload hC 5 dX12_called_280 rfl ?_
                                refine pm_iconst (v := 3) hC dX12_called_282 ?_
                                refine pm_icmp_ne (tgt := 305) hC ⟨by exact ow_91_89 c106, by exact ow_91_90 c106⟩ ⟨by decide, by decide⟩ dX12_called_283 (by decide) (fun c176 => ?_) (fun c176 => ?_)
                                · skip
                                  replace hb55 := hb55.trans (if_pos c176)
                                  refine pm_iload hC 5 dX12_called_305 rfl ?_
                                  refine pm_iconst (v := 4) hC dX12_called_307 ?_
                                  refine pm_icmp_ne (tgt := 330) hC ⟨by exact ow_91_89 c106, by exact ow_91_90 c106⟩ ⟨by decide, by decide⟩ dX12_called_308 (by decide) (fun c177 => ?_) (fun c177 => ?_)
                                  · skip
                                    replace hb55 := hb55.trans (if_pos c177)
                                    obtain ⟨x178, ei179⟩ : ∃ y : Int, x40 + 1 = y := ⟨_, rfl⟩
                                    replace hb55 := hb55.trans (pf_let_eq ei179)
                                    refine pm_iinc (y := x178) (lv' := [(8, (0, x178)), (7, (0, 1)), (6, (0, (x36 - 2))), (12, (0, y81)), (11, (0, y78)), (10, (0, y65)), (9, (0, y62)), (0, (3, 90)), (1, (0, a1)), (2, (0, a2)), (3, (0, a3)), (4, (0, a4)), (5, (0, x34))]) hC 12 dX12_called_330 (by decide) rfl ei179 rfl ?_
                                    refine pm_goto (tgt := 48) hC dX12_called_333 (by decide) ?_
                                    refine pm_lvsub [7, 8, 9, 10, 11, 12, 2, 1, 0] (lv' := [(0, (3, 90)), (1, (0, a1)), (2, (0, a2)), (3, (0, a3)), (4, (0, a4)), (5, (0, x34)), (6, (0, (x36 - 2))), (7, (0, 1)), (8, (0, x178))]) rfl ?_
                                    exact ih59 _ (by exact ow_91_36 hN hm57 hkN ei179) x34 (x36 - 2) 1 x178 V42 ⟨by exact ow_91_37 b35, by exact ow_91_38 b3 c60⟩ ⟨by omega, by exact ow_91_60 b37⟩ ⟨by decide, by decide⟩ ⟨by exact ow_91_43 b41 ei179, by exact ow_91_44 hN hkN ei179⟩ hV43 hF44 e45 e46 hp47 hp48 hp49 (by rw [show ((x178) : Int).toNat = (x40 : Int).toNat + 1 by exact ow_91_47 b41 ei179]; first | (have q := hcs.2.2.1 (by omega); omega) | (have q := hcs.2.2.2.1 (by omega); omega) | (have q := hcs.2.2.2.2.1 (by omega); omega) | (have q := hcs.2.2.2.2.2 (by omega) (by omega); omega)) (by rw [show ((x178) : Int).toNat = (x40 : Int).toNat + 1 by exact ow_91_47 b41 ei179]; first | (have q := hcs.2.2.1 (by omega); omega) | (have q := hcs.2.2.2.1 (by omega); omega) | (have q := hcs.2.2.2.2.1 (by omega); omega) | (have q := hcs.2.2.2.2.2 (by omega) (by omega); omega)) (by exact ow_91_48 hkN ei179) (hT.trans (pf_val_inl hb55)) rfl
                                  · skip
                                    replace hb55 := hb55.trans (if_neg (fun q => q c177))
                                    exfalso; exact ow_91_92 c106 c177
                                · skip
                                  replace hb55 := hb55.trans (if_neg (fun q => q c176))
                                  exfalso; exact ow_91_93 c106 c176
                              · skip
                                replace hb55 := hb55.trans (if_neg (fun q => q c175))
                                exfalso; exact ow_91_94 c106 c175
                      · skip
                        replace hb55 := hb55.trans (if_neg (fun q => q c161))
                        exfalso; exact ow_91_95 c106 c161
                · skip
                  replace hb55 := hb55.trans (if_neg (fun q => q c76))
                  refine pm_aload_n hC 2 (by decide) dX12_called_129 rfl ?_
                  have e180 : V42 90 56 = 117 := hV43.one 90 56 (by decide) (by decide) rfl
                  refine pm_getf (v := 117) hC 90 fl_X12_91 rfl rfl (by decide) rfl e180 dX12_called_130 ?_
                  refine pm_iload hC 8 dX12_called_133 rfl ?_
                  refine pm_iload hC 1 dX12_called_135 rfl ?_
                  refine pm_if_ne (tgt := 145) hC ⟨by exact ow_91_96 c76, by exact ow_91_97 c76⟩ dX12_called_137 (by decide) (fun c181 => ?_) (fun c181 => ?_)
                  · skip
                    replace hb55 := hb55.trans (if_pos c181)
                    have hc1 := hcs.2.1 (by exact ow_91_98 c76)
                    refine pm_aload_n hC 2 (by decide) dX12_called_145 rfl ?_
                    have e182 : V42 90 55 = 116 := hV43.one 90 55 (by decide) (by decide) rfl
                    refine pm_getf (v := 116) hC 90 fl_X12_88 rfl rfl (by decide) rfl e182 dX12_called_146 ?_
                    refine pm_iload hC 0 dX12_called_149 rfl ?_
                    obtain ⟨y183, e184⟩ : ∃ y, V42 116 (y65 : Int).toNat = y := ⟨_, rfl⟩
                    replace hb55 := hb55.trans (pf_let_eq e184)
                    have b185 := hV43.get 116 (y65 : Int).toNat (lo := (-2147483648)) (hi := 2147483647) (t := 0) (by decide) (show _ < 7 by exact ow_91_99 hc1) rfl
                    rw [e184] at b185
                    refine pm_iaload (len := 7) (v := y183) hC 116 rfl rfl (by decide) ⟨by exact ow_91_100 b67, by exact ow_91_101 hc1⟩ (by decide) e184 dX12_called_151 ?_
                    refine pm_iastore (len := 600) hC 117 rfl rfl (by decide) ⟨by omega, by exact ow_91_35 b37⟩ (by decide) dX12_called_152 ?_
                    obtain ⟨x186, ei187⟩ : ∃ y : Int, x36 + 1 = y := ⟨_, rfl⟩
                    replace hb55 := hb55.trans (pf_let_eq ei187)
                    refine pm_iinc (y := x186) (lv' := [(6, (0, x186)), (10, (0, y65)), (9, (0, y62)), (0, (3, 90)), (1, (0, a1)), (2, (0, a2)), (3, (0, a3)), (4, (0, a4)), (5, (0, x34)), (7, (0, x38)), (8, (0, x40))]) hC 8 dX12_called_153 (by decide) rfl ei187 rfl ?_
                    refine pm_goto (tgt := 330) hC dX12_called_156 (by decide) ?_
                    obtain ⟨x188, ei189⟩ : ∃ y : Int, x40 + 1 = y := ⟨_, rfl⟩
                    replace hb55 := hb55.trans (pf_let_eq ei189)
                    refine pm_iinc (y := x188) (lv' := [(8, (0, x188)), (6, (0, x186)), (10, (0, y65)), (9, (0, y62)), (0, (3, 90)), (1, (0, a1)), (2, (0, a2)), (3, (0, a3)), (4, (0, a4)), (5, (0, x34)), (7, (0, x38))]) hC 10 dX12_called_330 (by decide) rfl ei189 rfl ?_
                    refine pm_goto (tgt := 48) hC dX12_called_333 (by decide) ?_
                    refine pm_lvsub [4, 5, 6, 7, 8, 9, 1, 10, 0] (lv' := [(0, (3, 90)), (1, (0, a1)), (2, (0, a2)), (3, (0, a3)), (4, (0, a4)), (5, (0, x34)), (6, (0, x186)), (7, (0, x38)), (8, (0, x188))]) rfl ?_
                    exact ih59 _ (by exact ow_91_36 hN hm57 hkN ei189) x34 x186 x38 x188 (pm_up V42 117 (x36 : Int).toNat y183) ⟨by exact ow_91_37 b35, by exact ow_91_38 b3 c60⟩ ⟨by exact ow_91_39 b37 ei187, by exact ow_91_40 hN hx51 hkN hvk ei187⟩ ⟨by exact ow_91_41 b39, by exact ow_91_42 b39⟩ ⟨by exact ow_91_43 b41 ei189, by exact ow_91_44 hN hkN ei189⟩ (hV43.put 117 (x36 : Int).toNat (x := y183) (lo := (-2147483648)) (hi := 2147483647) rfl ⟨by exact ow_91_4 b185, by exact ow_91_5 b185⟩) (hF44.up 117 (x36 : Int).toNat y183 (by decide) rfl) e45 e46 (pm_h1.fr hp47 rfl rfl) (pm_h2.fr hp48 rfl rfl rfl) (pm_r1.fr hp49 rfl rfl) (by rw [show ((x188) : Int).toNat = (x40 : Int).toNat + 1 by exact ow_91_47 b41 ei189]; first | (have q := hcs.2.2.1 (by omega); omega) | (have q := hcs.2.2.2.1 (by omega); omega) | (have q := hcs.2.2.2.2.1 (by omega); omega) | (have q := hcs.2.2.2.2.2 (by omega) (by omega); omega)) (by rw [show ((x188) : Int).toNat = (x40 : Int).toNat + 1 by exact ow_91_47 b41 ei189]; first | (have q := hcs.2.2.1 (by omega); omega) | (have q := hcs.2.2.2.1 (by omega); omega) | (have q := hcs.2.2.2.2.1 (by omega); omega) | (have q := hcs.2.2.2.2.2 (by omega) (by omega); omega)) (by exact ow_91_48 hkN ei189) (hT.trans (pf_val_inl hb55)) rfl
                  · skip
                    replace hb55 := hb55.trans (if_neg (fun q => q c181))
                    exfalso; exact ow_91_102 c76 c181
            · skip
              replace hb55 := hb55.trans (if_neg (fun q => q c68))
              refine pm_iload hC 9 dX12_called_88 rfl ?_
              refine pm_if_eq (tgt := 106) hC ⟨by exact ow_91_58 b39, by exact ow_91_59 b39⟩ dX12_called_90 (by decide) (fun c190 => ?_) (fun c190 => ?_)
              · skip
                replace hb55 := hb55.trans (if_pos c190)
                obtain ⟨x191, ei192⟩ : ∃ y : Int, x34 + 1 = y := ⟨_, rfl⟩
                replace hb55 := hb55.trans (pf_let_eq ei192)
                refine pm_iinc (y := x191) (lv' := [(5, (0, x191)), (10, (0, y65)), (9, (0, y62)), (0, (3, 90)), (1, (0, a1)), (2, (0, a2)), (3, (0, a3)), (4, (0, a4)), (6, (0, x36)), (7, (0, x38)), (8, (0, x40))]) hC 7 dX12_called_106 (by decide) rfl ei192 rfl ?_
                refine pm_iconst (v := 1) hC dX12_called_109 ?_
                refine pm_istore (lv' := [(7, (0, 1)), (5, (0, x191)), (10, (0, y65)), (9, (0, y62)), (0, (3, 90)), (1, (0, a1)), (2, (0, a2)), (3, (0, a3)), (4, (0, a4)), (6, (0, x36)), (8, (0, x40))]) hC dX12_called_110 (by decide) rfl ?_
                refine pm_iconst (v := 0) hC dX12_called_112 ?_
                refine pm_istore (lv' := [(6, (0, 0)), (7, (0, 1)), (5, (0, x191)), (10, (0, y65)), (9, (0, y62)), (0, (3, 90)), (1, (0, a1)), (2, (0, a2)), (3, (0, a3)), (4, (0, a4)), (8, (0, x40))]) hC dX12_called_113 (by decide) rfl ?_
                refine pm_goto (tgt := 330) hC dX12_called_115 (by decide) ?_
                obtain ⟨x193, ei194⟩ : ∃ y : Int, x40 + 1 = y := ⟨_, rfl⟩
                replace hb55 := hb55.trans (pf_let_eq ei194)
                refine pm_iinc (y := x193) (lv' := [(8, (0, x193)), (6, (0, 0)), (7, (0, 1)), (5, (0, x191)), (10, (0, y65)), (9, (0, y62)), (0, (3, 90)), (1, (0, a1)), (2, (0, a2)), (3, (0, a3)), (4, (0, a4))]) hC 10 dX12_called_330 (by decide) rfl ei194 rfl ?_
                refine pm_goto (tgt := 48) hC dX12_called_333 (by decide) ?_
                refine pm_lvsub [6, 7, 8, 9, 10, 3, 1, 2, 0] (lv' := [(0, (3, 90)), (1, (0, a1)), (2, (0, a2)), (3, (0, a3)), (4, (0, a4)), (5, (0, x191)), (6, (0, 0)), (7, (0, 1)), (8, (0, x193))]) rfl ?_
                exact ih59 _ (by exact ow_91_36 hN hm57 hkN ei194) x191 0 1 x193 V42 ⟨by exact ow_91_43 b35 ei192, by exact ow_91_103 b3 c60 ei192⟩ ⟨by decide, by decide⟩ ⟨by decide, by decide⟩ ⟨by exact ow_91_43 b41 ei194, by exact ow_91_44 hN hkN ei194⟩ hV43 hF44 e45 e46 hp47 hp48 hp49 (by rw [show ((x193) : Int).toNat = (x40 : Int).toNat + 1 by exact ow_91_47 b41 ei194]; first | (have q := hcs.2.2.1 (by exact ow_91_104 b64 c68); omega) | (have q := hcs.2.2.2.1 (by omega); omega) | (have q := hcs.2.2.2.2.1 (by omega); omega) | (have q := hcs.2.2.2.2.2 (by omega) (by omega); omega)) (by rw [show ((x193) : Int).toNat = (x40 : Int).toNat + 1 by exact ow_91_47 b41 ei194]; first | (have q := hcs.2.2.1 (by exact ow_91_104 b64 c68); omega) | (have q := hcs.2.2.2.1 (by omega); omega) | (have q := hcs.2.2.2.2.1 (by omega); omega) | (have q := hcs.2.2.2.2.2 (by omega) (by omega); omega)) (by exact ow_91_48 hkN ei194) (hT.trans (pf_val_inl hb55)) rfl
              · skip
                replace hb55 := hb55.trans (if_neg c190)
                refine pm_iload hC 6 dX12_called_93 rfl ?_
                refine pm_if_ne (tgt := 103) hC ⟨by exact ow_91_4 h3, by exact ow_91_5 h3⟩ dX12_called_95 (by decide) (fun c195 => ?_) (fun c195 => ?_)
                · skip
                  replace hb55 := hb55.trans (if_pos c195)
                  refine pm_iload hC 7 dX12_called_103 rfl ?_
                  replace hT := hT.trans (pf_val_inr hb55)
                  exact pm_iret hC hR pm_nar0 ⟨x34, rfl, ⟨by exact ow_91_105 b35, by exact ow_91_106 b35⟩, hV43, hF44, hT⟩ dX12_called_105
                · skip
                  replace hb55 := hb55.trans (if_neg (fun q => q c195))
                  refine pm_iload hC 0 dX12_called_98 rfl ?_
                  refine pm_goto (tgt := 105) hC dX12_called_100 (by decide) ?_
                  replace hT := hT.trans (pf_val_inr hb55)
                  exact pm_iret hC hR pm_nar0 ⟨y65, rfl, ⟨by exact ow_91_107 b67, by exact ow_91_108 b67⟩, hV43, hF44, hT⟩ dX12_called_105
        refine pm_lvsub [4, 5, 6, 7, 8, 3, 2, 1, 0] (lv' := [(0, (3, 90)), (1, (0, a1)), (2, (0, a2)), (3, (0, a3)), (4, (0, a4)), (5, (0, 0)), (6, (0, 0)), (7, (0, 1)), (8, (0, 0))]) rfl ?_
        exact L56 _ 0 0 1 0 V23 ⟨by decide, by decide⟩ ⟨by decide, by decide⟩ ⟨by decide, by decide⟩ ⟨by decide, by decide⟩ hV25 hF28 e29 e30 hp31 hp32 hp33 rfl rfl (by exact ow_91_109) hT rfl
      · skip
        replace hT := hT.trans (if_neg (fun q => q c21))
        refine pm_iconst (v := (-1)) hC dX12_called_27 ?_
        exact pm_iret hC hR pm_nar0 ⟨(-1), rfl, ⟨by exact ow_91_2, by exact ow_91_3⟩, hV0, (pm_fs.rf (cs := [110, 111, 112, 116, 117]) (fs := [42, 43, 44, 45, 46, 47, 48, 49, 51]) (V := V0)), hT⟩ dX12_called_28
