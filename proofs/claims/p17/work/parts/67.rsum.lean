theorem ow_67_0 {a0 : Int} (h0 : ((0 ≤ (a0 : Int)) ∧ (a0 ≤ (1 : Int)))) : ((-2147483648) ≤ (a0 : Int)) := by omega
theorem ow_67_1 {a0 : Int} (h0 : ((0 ≤ (a0 : Int)) ∧ (a0 ≤ (1 : Int)))) : (a0 ≤ (2147483647 : Int)) := by omega
theorem ow_67_2 {a0 : Int} (h0 : ((0 ≤ (a0 : Int)) ∧ (a0 ≤ (8 : Int)))) : ((-2147483648) ≤ (a0 : Int)) := by omega
theorem ow_67_3 {a0 : Int} (h0 : ((0 ≤ (a0 : Int)) ∧ (a0 ≤ (8 : Int)))) : (a0 ≤ (2147483647 : Int)) := by omega
theorem ow_67_4 {a0 : Int} (h0 : ((0 ≤ (a0 : Int)) ∧ (a0 ≤ (8 : Int)))) (h1 : (a0 ≤ (0 : Int))) : (a0 = (0 : Int)) := by omega
theorem ow_67_5 {a0 : Int} (h0 : ((0 ≤ (a0 : Int)) ∧ (a0 ≤ (1 : Int)))) (h1 : (a0 = (0 : Int))) : ((1 - a0) = (1 : Int)) := by omega
theorem ow_67_6 {a0 a1 a2 a3 a4 a5 : Int} (h0 : (a0 ≤ (a1 : Int))) (h1 : (((a2 + a3) + a1) ≤ ((a4 + a0) : Int))) (h2 : (a4 = (a5 : Int))) (h3 : ((0 ≤ (a5 : Int)) ∧ (a5 ≤ (500 : Int)))) : ((a2 + a3) ≤ (600 : Int)) := by omega
theorem ow_67_7 : ((1 = (0 : Int)) ∨ (1 = (1 : Int))) := by omega
theorem ow_67_8 : (0 ≤ (1 : Int)) := by omega
theorem ow_67_9 : (1 ≤ (1 : Int)) := by omega
theorem ow_67_10 {a0 a1 a2 a3 a4 a5 a6 a7 : Int} (h0 : ((0 ≤ (a0 : Int)) ∧ (a0 ≤ (1 : Int)))) (h1 : ((a0 = (0 : Int)) → (a1 ≤ ((5 * (a2 - a3)) : Int)))) (h2 : (a2 = (a4 : Int))) (h3 : (a1 = (a5 : Int))) (h4 : (a0 = (0 : Int))) (h5 : (a6 = (a4 : Int))) (h6 : (a7 = (a5 : Int))) : ((1 = (1 : Int)) → (a7 ≤ ((5 * (a6 - a3)) : Int))) := by omega
theorem ow_67_11 {a0 a1 a2 a3 : Int} (h0 : (a0 ≤ (a1 : Int))) (h1 : (a1 = (a2 : Int))) (h2 : (a3 = (a2 : Int))) : (a0 ≤ (a3 : Int)) := by omega
theorem ow_67_12 {a0 a1 a2 a3 a4 a5 a6 a7 a8 : Int} (h0 : (((a0 + a1) + a2) ≤ ((a3 + a4) : Int))) (h1 : (a3 = (a5 : Int))) (h2 : (a6 = (a5 : Int))) (h3 : ((a7 + a8) = ((a0 + a1) : Int))) (h4 : ((0 ≤ (0 : Int)) ∧ (0 ≤ (a8 : Int)))) : ((a7 + a2) ≤ ((a6 + a4) : Int)) := by omega
theorem ow_67_13 : ((0 = (0 : Int)) ∨ (0 = (1 : Int))) := by omega
theorem ow_67_14 : (0 ≤ (0 : Int)) := by omega
theorem ow_67_15 {a0 a1 a2 : Int} : ((0 = (1 : Int)) → (a0 ≤ ((5 * (a1 - a2)) : Int))) := by omega
theorem ow_67_16 {a0 a1 : Int} (h0 : (a0 ≤ (a1 : Int))) : (a0 ≤ (a1 : Int)) := by omega
theorem ow_67_17 {a0 a1 : Int} (h0 : ((0 ≤ (a0 : Int)) ∧ ((a0 ≤ (1 : Int)) ∧ ((a0 = (1 : Int)) → (a1 = (3 : Int)))))) : ((-2147483648) ≤ (a0 : Int)) := by omega
theorem ow_67_18 {a0 a1 : Int} (h0 : ((0 ≤ (a0 : Int)) ∧ ((a0 ≤ (1 : Int)) ∧ ((a0 = (1 : Int)) → (a1 = (3 : Int)))))) : (a0 ≤ (2147483647 : Int)) := by omega
theorem ow_67_19 {a0 : Int} (h0 : ((0 ≤ (a0 : Int)) ∧ (a0 ≤ (4 : Int)))) : ((-2147483648) ≤ (a0 : Int)) := by omega
theorem ow_67_20 {a0 : Int} (h0 : ((0 ≤ (a0 : Int)) ∧ (a0 ≤ (4 : Int)))) : (a0 ≤ (2147483647 : Int)) := by omega
theorem ow_67_21 {a0 a1 : Int} (h0 : (((-1) ≤ (a0 : Int)) ∧ ((a0 ≤ (6 : Int)) ∧ ((0 ≤ (a0 : Int)) → (a1 = (1 : Int)))))) : ((-2147483648) ≤ (a0 : Int)) := by omega
theorem ow_67_22 {a0 a1 : Int} (h0 : (((-1) ≤ (a0 : Int)) ∧ ((a0 ≤ (6 : Int)) ∧ ((0 ≤ (a0 : Int)) → (a1 = (1 : Int)))))) : (a0 ≤ (2147483647 : Int)) := by omega
theorem ow_67_23 {a0 : Int} (h0 : ((0 ≤ (a0 : Int)) ∧ (a0 ≤ (600 : Int)))) : (0 ≤ (a0 : Int)) := by omega
theorem ow_67_24 {a0 a1 a2 a3 a4 a5 a6 a7 : Int} (h0 : (a0 ≤ (a1 : Int))) (h1 : (a2 = (a3 : Int))) (h2 : (((a2 + a4) + a1) ≤ ((a5 + a0) : Int))) (h3 : (a5 = (a6 : Int))) (h4 : ((0 ≤ (a6 : Int)) ∧ (a6 ≤ (500 : Int)))) (h5 : (a4 = (a7 : Int))) (h6 : ((0 ≤ (a7 : Int)) ∧ (a7 ≤ (600 : Int)))) : (a3 ≤ (599 : Int)) := by omega
theorem ow_67_25 {a0 a1 : Int} (h0 : (((-1) ≤ (a0 : Int)) ∧ ((a0 ≤ (6 : Int)) ∧ ((0 ≤ (a0 : Int)) → (a1 = (1 : Int)))))) (h1 : ¬((a0 = ((-1) : Int)))) : (0 ≤ (a0 : Int)) := by omega
theorem ow_67_26 {a0 a1 : Int} (h0 : (((-1) ≤ (a0 : Int)) ∧ ((a0 ≤ (6 : Int)) ∧ ((0 ≤ (a0 : Int)) → (a1 = (1 : Int)))))) : (a0 ≤ (9999 : Int)) := by omega
theorem ow_67_27 {a0 a1 : Int} (h0 : (((-1) ≤ (a0 : Int)) ∧ ((a0 ≤ (6 : Int)) ∧ ((0 ≤ (a0 : Int)) → (a1 = (1 : Int)))))) : (a0 ≤ (6 : Int)) := by omega
theorem ow_67_28 (h0 : ¬((0 = (0 : Int)))) : False := by omega
theorem ow_67_29 {a0 a1 a2 a4 a5 a6 a7 a8 : Int} {k3 : Nat} (h0 : ((0 ≤ (a0 : Int)) ∧ (a0 ≤ (1 : Int)))) (h1 : ((((2 * ((5 * (500 - a1)) + a2)) + a0) : Int).toNat = (k3 : Nat))) (h2 : (((((5 * (500 - a4)) + a5) + 1) ≤ (((5 * (500 - a1)) + a2) : Int)) ∧ (a5 ≤ ((5 * (a4 - a6)) : Int)))) (h3 : (a4 = (a7 : Int))) (h4 : ((0 ≤ (a7 : Int)) ∧ (a7 ≤ (500 : Int)))) (h5 : (a5 = (a8 : Int))) (h6 : ((0 ≤ (a8 : Int)) ∧ (a8 ≤ (4 : Int)))) : ((((2 * ((5 * (500 - a4)) + a5)) + 0) : Int).toNat < (k3 : Nat)) := by omega
theorem ow_67_30 {a0 : Int} (h0 : ((0 ≤ (a0 : Int)) ∧ (a0 ≤ (8 : Int)))) : (0 ≤ (a0 : Int)) := by omega
theorem ow_67_31 {a0 : Int} (h0 : ((0 ≤ (a0 : Int)) ∧ (a0 ≤ (8 : Int)))) : (a0 ≤ (8 : Int)) := by omega
theorem ow_67_32 {a0 a1 a2 a3 a4 a5 a6 : Int} (h0 : (((((5 * (500 - a0)) + a1) + 1) ≤ (((5 * (500 - a2)) + a3) : Int)) ∧ (a1 ≤ ((5 * (a0 - a4)) : Int)))) (h1 : (a0 = (a5 : Int))) (h2 : (a1 = (a6 : Int))) (h3 : ((0 ≤ (a6 : Int)) ∧ (a6 ≤ (4 : Int)))) : (a4 ≤ (a5 : Int)) := by omega
theorem ow_67_33 : (1 = ((1 - 0) : Int)) := by omega
theorem ow_67_34 {a0 a1 a2 a3 a4 a5 a6 a7 : Int} (h0 : (((a0 + a1) + a2) ≤ ((a3 + a4) : Int))) (h1 : (a3 = (a5 : Int))) (h2 : (a0 = (a6 : Int))) (h3 : (a1 = (a7 : Int))) : (((a6 + a7) + a2) ≤ ((a5 + a4) : Int)) := by omega
theorem ow_67_35 {a0 a1 a2 a3 a4 a5 a6 : Int} (h0 : (((((5 * (500 - a0)) + a1) + 1) ≤ (((5 * (500 - a2)) + a3) : Int)) ∧ (a1 ≤ ((5 * (a0 - a4)) : Int)))) (h1 : (a0 = (a5 : Int))) (h2 : (a1 = (a6 : Int))) : ((0 = (0 : Int)) → (a6 ≤ ((5 * (a5 - a4)) : Int))) := by omega
theorem ow_67_36 (h0 : ¬(((-1) = ((-1) : Int)))) : False := by omega
theorem ow_67_37 (h0 : (4 = ((-1) : Int))) : False := by omega
theorem ow_67_38 {a0 : Int} (h0 : ((0 ≤ (a0 : Int)) ∧ (a0 ≤ (2 : Int)))) : (0 ≤ (a0 : Int)) := by omega
theorem ow_67_39 {a0 : Int} (h0 : ((0 ≤ (a0 : Int)) ∧ (a0 ≤ (2 : Int)))) : (a0 ≤ (7 : Int)) := by omega
theorem ow_67_40 {a0 a1 a2 a3 a4 a5 a6 a7 a8 a9 : Int} (h0 : (a0 ≤ (a1 : Int))) (h1 : (((a2 + a3) + a1) ≤ ((a4 + a0) : Int))) (h2 : (a4 = (a5 : Int))) (h3 : ((0 ≤ (a5 : Int)) ∧ (a5 ≤ (500 : Int)))) (h4 : ((a6 + a7) = ((a2 + a3) : Int))) (h5 : (a6 = (a8 : Int))) (h6 : ((0 ≤ (a8 : Int)) ∧ (a8 ≤ (600 : Int)))) (h7 : (a7 = (a9 : Int))) : (a9 < (((600 : Nat) : Int) : Int)) := by omega
theorem ow_67_41 {a0 : Int} (h0 : ((0 ≤ (a0 : Int)) ∧ (a0 ≤ (600 : Int)))) : (0 ≤ ((a0 + 1) : Int)) := by omega
theorem ow_67_42 {a0 a1 a2 a3 a4 a5 a6 a7 a8 a9 : Int} (h0 : (a0 ≤ (a1 : Int))) (h1 : (((a2 + a3) + a1) ≤ ((a4 + a0) : Int))) (h2 : (a4 = (a5 : Int))) (h3 : ((0 ≤ (a5 : Int)) ∧ (a5 ≤ (500 : Int)))) (h4 : ((a6 + a7) = ((a2 + a3) : Int))) (h5 : (a6 = (a8 : Int))) (h6 : ((0 ≤ (a8 : Int)) ∧ (a8 ≤ (600 : Int)))) (h7 : (a7 = (a9 : Int))) : ((a9 + 1) ≤ (600 : Int)) := by omega
theorem ow_67_43 {a0 : Int} : ((a0 + 0) = (a0 : Int)) := by omega
theorem ow_67_44 {a0 a1 a2 a4 a5 a6 a7 a8 a9 a10 a11 a12 a13 a14 a15 : Int} {k3 : Nat} (h0 : ((0 ≤ (a0 : Int)) ∧ (a0 ≤ (1 : Int)))) (h1 : ((((2 * ((5 * (500 - a1)) + a2)) + a0) : Int).toNat = (k3 : Nat))) (h2 : ¬((a0 = (0 : Int)))) (h3 : (((((5 * (500 - a4)) + a5) + 1) ≤ (((5 * (500 - a1)) + a2) : Int)) ∧ (a5 ≤ ((5 * (a4 - a6)) : Int)))) (h4 : (a4 = (a7 : Int))) (h5 : ((0 ≤ (a8 : Int)) ∧ ((a8 ≤ (1 : Int)) ∧ ((a8 = (1 : Int)) → (a5 = (3 : Int)))))) (h6 : ¬((a8 = (0 : Int)))) (h7 : (a9 = (a7 : Int))) (h8 : (a10 = (a11 : Int))) (h9 : ((0 ≤ (a11 : Int)) ∧ (a11 ≤ (500 : Int)))) (h10 : (a12 = (a13 : Int))) (h11 : ((0 ≤ (a13 : Int)) ∧ (a13 ≤ (4 : Int)))) (h12 : ((a9 ≤ (a14 : Int)) ∧ ((a14 ≤ (a10 : Int)) ∧ ((a10 ≤ (a15 : Int)) ∧ ((a12 ≤ ((4 * (a10 - a14)) : Int)) ∧ (a12 ≤ ((5 * (a10 - a9)) : Int))))))) : ((((2 * ((5 * (500 - a10)) + a12)) + 1) : Int).toNat < (k3 : Nat)) := by omega
theorem ow_67_45 {a0 a1 a2 a3 a4 a5 a6 a7 a8 a9 a10 a11 a12 : Int} (h0 : (((((5 * (500 - a0)) + a1) + 1) ≤ (((5 * (500 - a2)) + a3) : Int)) ∧ (a1 ≤ ((5 * (a0 - a4)) : Int)))) (h1 : (a0 = (a5 : Int))) (h2 : (a1 = (a6 : Int))) (h3 : ((0 ≤ (a6 : Int)) ∧ (a6 ≤ (4 : Int)))) (h4 : (a7 = (a5 : Int))) (h5 : (a8 = (a9 : Int))) (h6 : ((a7 ≤ (a10 : Int)) ∧ ((a10 ≤ (a8 : Int)) ∧ ((a8 ≤ (a11 : Int)) ∧ ((a12 ≤ ((4 * (a8 - a10)) : Int)) ∧ (a12 ≤ ((5 * (a8 - a7)) : Int))))))) : (a4 ≤ (a9 : Int)) := by omega
theorem ow_67_46 : (0 = ((1 - 1) : Int)) := by omega
theorem ow_67_47 {a0 a1 a2 a3 a4 a5 a6 a7 a8 a9 a10 a11 a12 a13 a14 a15 a16 a17 a18 : Int} (h0 : (((a0 + a1) + a2) ≤ ((a3 + a4) : Int))) (h1 : (a5 = (a6 : Int))) (h2 : (a7 ≤ ((4 * (a5 - a3)) : Int))) (h3 : ((0 ≤ (a8 : Int)) ∧ ((a8 ≤ (1 : Int)) ∧ ((a8 = (1 : Int)) → (a7 = (3 : Int)))))) (h4 : ¬((a8 = (0 : Int)))) (h5 : ((a9 + a10) = ((a0 + a1) : Int))) (h6 : (a9 = (a11 : Int))) (h7 : (a10 = (a12 : Int))) (h8 : (a13 = (a6 : Int))) (h9 : (a14 = (a15 : Int))) (h10 : ((a13 ≤ (a14 : Int)) ∧ ((a14 ≤ (a16 : Int)) ∧ ((a16 ≤ (a17 : Int)) ∧ ((a18 ≤ ((4 * (a16 - a14)) : Int)) ∧ (a18 ≤ ((5 * (a16 - a13)) : Int))))))) : (((a11 + (a12 + 1)) + a2) ≤ ((a15 + a4) : Int)) := by omega
theorem ow_67_48 {a0 a1 a2 : Int} : ((1 = (0 : Int)) → (a0 ≤ ((5 * (a1 - a2)) : Int))) := by omega
theorem ow_67_49 (h0 : (1 = (0 : Int))) : False := by omega
theorem ow_67_50 (h0 : (3 = ((-1) : Int))) : False := by omega
theorem ow_67_51 (h0 : (2 = ((-1) : Int))) : False := by omega
theorem ow_67_52 {a0 a1 a2 a4 a5 a6 a7 a8 : Int} {k3 : Nat} (h0 : ((0 ≤ (a0 : Int)) ∧ (a0 ≤ (1 : Int)))) (h1 : ((((2 * ((5 * (500 - a1)) + a2)) + a0) : Int).toNat = (k3 : Nat))) (h2 : ¬((a0 = (0 : Int)))) (h3 : (((((5 * (500 - a4)) + a5) + 1) ≤ (((5 * (500 - a1)) + a2) : Int)) ∧ (a5 ≤ ((5 * (a4 - a6)) : Int)))) (h4 : (a4 = (a7 : Int))) (h5 : ((0 ≤ (a7 : Int)) ∧ (a7 ≤ (500 : Int)))) (h6 : ((0 ≤ (a8 : Int)) ∧ ((a8 ≤ (1 : Int)) ∧ ((a8 = (1 : Int)) → (a5 = (3 : Int)))))) (h7 : ¬((a8 = (0 : Int)))) : ((((2 * ((5 * (500 - a4)) + a5)) + 0) : Int).toNat < (k3 : Nat)) := by omega
theorem ow_67_53 {a0 : Int} (h0 : (a0 ≤ (0 : Int))) : (a0 ≤ (8 : Int)) := by omega
theorem ow_67_54 {a0 a1 a2 : Int} (h0 : (0 < (a0 : Int))) (h1 : ((0 ≤ (a0 : Int)) ∧ (a0 ≤ (a1 : Int)))) (h2 : (a1 = (a2 : Int))) : (0 ≤ ((a2 - 1) : Int)) := by omega
theorem ow_67_55 {a0 a1 a2 a3 a4 a5 a6 a7 a8 a9 : Int} (h0 : (a0 ≤ (a1 : Int))) (h1 : (((a2 + a3) + a1) ≤ ((a4 + a0) : Int))) (h2 : (a4 = (a5 : Int))) (h3 : ((0 ≤ (a5 : Int)) ∧ (a5 ≤ (500 : Int)))) (h4 : ((a6 + a7) = ((a2 + a3) : Int))) (h5 : (a6 = (a8 : Int))) (h6 : ((0 ≤ (a8 : Int)) ∧ (a8 ≤ (600 : Int)))) (h7 : (a7 = (a9 : Int))) : ((a9 - 1) ≤ (600 : Int)) := by omega
theorem ow_67_56 {a0 a1 : Int} (h0 : (0 < (a0 : Int))) (h1 : ((0 ≤ (a0 : Int)) ∧ (a0 ≤ (a1 : Int)))) : (1 ≤ (a1 : Int)) := by omega
theorem ow_67_57 {a0 a1 : Int} (h0 : (0 < (a0 : Int))) (h1 : ((0 ≤ (a0 : Int)) ∧ (a0 ≤ (a1 : Int)))) (h2 : (a1 = (0 : Int))) : False := by omega
theorem ow_67_58 {a0 a1 : Int} (h0 : ((a0 + (-1)) = (a1 : Int))) : ((a0 - 1) = (a1 : Int)) := by omega
theorem ow_67_59 {a0 a1 a3 a4 a5 a6 a7 a8 a9 a10 a11 : Int} {k2 : Nat} (h0 : ((((5 * (500 - a0)) + a1) : Int).toNat = (k2 : Nat))) (h1 : (a0 = (a3 : Int))) (h2 : ((0 ≤ (a4 : Int)) ∧ ((a4 ≤ (1 : Int)) ∧ ((a4 = (1 : Int)) → (a1 = (3 : Int)))))) (h3 : ¬((a4 = (0 : Int)))) (h4 : (a5 = (a3 : Int))) (h5 : (a6 = (a7 : Int))) (h6 : ((0 ≤ (a7 : Int)) ∧ (a7 ≤ (500 : Int)))) (h7 : (a8 = (a9 : Int))) (h8 : ((0 ≤ (a9 : Int)) ∧ (a9 ≤ (4 : Int)))) (h9 : ((a5 ≤ (a10 : Int)) ∧ ((a10 ≤ (a6 : Int)) ∧ ((a6 ≤ (a11 : Int)) ∧ ((a8 ≤ ((4 * (a6 - a10)) : Int)) ∧ (a8 ≤ ((5 * (a6 - a5)) : Int))))))) : ((((5 * (500 - a6)) + a8) : Int).toNat < (k2 : Nat)) := by omega
theorem ow_67_60 {a0 a1 : Int} (h0 : (0 < (a0 : Int))) (h1 : ((a0 + (-1)) = (a1 : Int))) : (0 ≤ (a1 : Int)) := by omega
theorem ow_67_61 {a0 a1 : Int} (h0 : ((0 ≤ (a0 : Int)) ∧ (a0 ≤ (8 : Int)))) (h1 : ((a0 + (-1)) = (a1 : Int))) : (a1 ≤ (8 : Int)) := by omega
theorem ow_67_62 {a0 a1 a2 a3 a4 a5 a6 a7 a8 a9 a10 a11 a12 a13 a14 a15 a16 a17 a18 : Int} (h0 : (((a0 + a1) + a2) ≤ ((a3 + a4) : Int))) (h1 : (a5 = (a6 : Int))) (h2 : (a7 = (a8 : Int))) (h3 : ((0 ≤ (a8 : Int)) ∧ (a8 ≤ (4 : Int)))) (h4 : (a7 ≤ ((4 * (a5 - a3)) : Int))) (h5 : ((a9 + a10) = ((a0 + a1) : Int))) (h6 : (a9 = (a11 : Int))) (h7 : (a10 = (a12 : Int))) (h8 : (a13 = (a6 : Int))) (h9 : (a14 = (a15 : Int))) (h10 : ((a13 ≤ (a14 : Int)) ∧ ((a14 ≤ (a16 : Int)) ∧ ((a16 ≤ (a17 : Int)) ∧ ((a18 ≤ ((4 * (a16 - a14)) : Int)) ∧ (a18 ≤ ((5 * (a16 - a13)) : Int))))))) : (((a11 + (a12 - 1)) + a2) ≤ ((a15 + a4) : Int)) := by omega
theorem ow_67_63 {a0 a1 a2 a3 a4 a5 a6 a7 a8 a9 a10 a11 a12 a13 : Int} (h0 : (((((5 * (500 - a0)) + a1) + 1) ≤ (((5 * (500 - a2)) + a3) : Int)) ∧ (a1 ≤ ((5 * (a0 - a4)) : Int)))) (h1 : (a0 = (a5 : Int))) (h2 : (a1 = (a6 : Int))) (h3 : ((0 ≤ (a6 : Int)) ∧ (a6 ≤ (4 : Int)))) (h4 : (a7 = (a5 : Int))) (h5 : (a8 = (a9 : Int))) (h6 : (a10 = (a11 : Int))) (h7 : ((a7 ≤ (a12 : Int)) ∧ ((a12 ≤ (a8 : Int)) ∧ ((a8 ≤ (a13 : Int)) ∧ ((a10 ≤ ((4 * (a8 - a12)) : Int)) ∧ (a10 ≤ ((5 * (a8 - a7)) : Int))))))) : (((((5 * (500 - a9)) + a11) + 1) ≤ (((5 * (500 - a2)) + a3) : Int)) ∧ (a11 ≤ ((5 * (a9 - a4)) : Int))) := by omega
theorem ow_67_64 {a0 a1 a2 a3 a4 a5 a6 a7 a8 : Int} (h0 : (a0 ≤ (a1 : Int))) (h1 : (a1 = (a2 : Int))) (h2 : (a3 = (a2 : Int))) (h3 : (a4 = (a5 : Int))) (h4 : ((a3 ≤ (a6 : Int)) ∧ ((a6 ≤ (a4 : Int)) ∧ ((a4 ≤ (a7 : Int)) ∧ ((a8 ≤ ((4 * (a4 - a6)) : Int)) ∧ (a8 ≤ ((5 * (a4 - a3)) : Int))))))) : (a0 ≤ (a5 : Int)) := by omega
theorem ow_67_65 {a0 a1 a2 a3 a4 a5 a6 a7 a8 a9 a10 a11 a12 a13 a14 a15 a16 a17 : Int} (h0 : (((a0 + a1) + a2) ≤ ((a3 + a4) : Int))) (h1 : (a5 = (a6 : Int))) (h2 : (a1 = (a7 : Int))) (h3 : (a8 ≤ ((4 * (a5 - a3)) : Int))) (h4 : (((-1) ≤ (a9 : Int)) ∧ ((a9 ≤ (6 : Int)) ∧ ((0 ≤ (a9 : Int)) → (a8 = (1 : Int)))))) (h5 : ¬((a9 = ((-1) : Int)))) (h6 : (a10 = ((a0 + 1) : Int))) (h7 : (a11 = (a6 : Int))) (h8 : (a10 = (a12 : Int))) (h9 : (a13 = (a14 : Int))) (h10 : ((a11 ≤ (a13 : Int)) ∧ ((a13 ≤ (a15 : Int)) ∧ ((a15 ≤ (a16 : Int)) ∧ ((a17 ≤ ((4 * (a15 - a13)) : Int)) ∧ (a17 ≤ ((5 * (a15 - a11)) : Int))))))) : (((a12 + a7) + a2) ≤ ((a14 + a4) : Int)) := by omega
theorem ow_67_66 {a0 a1 a2 a3 a4 a5 a6 a7 a8 a9 a10 a11 a12 a13 : Int} (h0 : (a0 ≤ (a1 : Int))) (h1 : (((5 * (500 - a1)) + a2) ≤ (((5 * (500 - a3)) + a4) : Int))) (h2 : (a1 = (a5 : Int))) (h3 : (((-1) ≤ (a6 : Int)) ∧ ((a6 ≤ (6 : Int)) ∧ ((0 ≤ (a6 : Int)) → (a2 = (1 : Int)))))) (h4 : ¬((a6 = ((-1) : Int)))) (h5 : (a7 = (a5 : Int))) (h6 : (a8 = (a9 : Int))) (h7 : (a10 = (a11 : Int))) (h8 : ((a7 ≤ (a12 : Int)) ∧ ((a12 ≤ (a8 : Int)) ∧ ((a8 ≤ (a13 : Int)) ∧ ((a10 ≤ ((4 * (a8 - a12)) : Int)) ∧ (a10 ≤ ((5 * (a8 - a7)) : Int))))))) : (((((5 * (500 - a9)) + a11) + 1) ≤ (((5 * (500 - a3)) + a4) : Int)) ∧ (a11 ≤ ((5 * (a9 - a0)) : Int))) := by omega
theorem ow_67_67 {a0 a1 a2 a3 a4 a5 a6 : Int} (h0 : ((0 ≤ (a0 : Int)) ∧ ((a0 ≤ (1 : Int)) ∧ (((a0 = (1 : Int)) → ((a1 + 1) ≤ (a2 : Int))) ∧ (((a0 = (1 : Int)) → ((0 ≤ (a3 : Int)) ∧ (a3 ≤ (9999 : Int)))) ∧ (((a0 = (1 : Int)) → (a4 ≤ ((5 * (a5 - a6)) : Int))) ∧ (a6 ≤ (a5 : Int)))))))) : ((-2147483648) ≤ (a0 : Int)) := by omega
theorem ow_67_68 {a0 a1 a2 a3 a4 a5 a6 : Int} (h0 : ((0 ≤ (a0 : Int)) ∧ ((a0 ≤ (1 : Int)) ∧ (((a0 = (1 : Int)) → ((a1 + 1) ≤ (a2 : Int))) ∧ (((a0 = (1 : Int)) → ((0 ≤ (a3 : Int)) ∧ (a3 ≤ (9999 : Int)))) ∧ (((a0 = (1 : Int)) → (a4 ≤ ((5 * (a5 - a6)) : Int))) ∧ (a6 ≤ (a5 : Int)))))))) : (a0 ≤ (2147483647 : Int)) := by omega
theorem ow_67_69 {a0 a1 a2 a3 a4 a5 a6 a7 : Int} (h0 : ((0 ≤ (a0 : Int)) ∧ ((a0 ≤ (1 : Int)) ∧ (((a0 = (1 : Int)) → ((a1 + 1) ≤ (a2 : Int))) ∧ (((a0 = (1 : Int)) → ((0 ≤ (a3 : Int)) ∧ (a3 ≤ (9999 : Int)))) ∧ (((a0 = (1 : Int)) → (a4 ≤ ((5 * (a5 - a6)) : Int))) ∧ (a6 ≤ (a5 : Int)))))))) (h1 : (a3 = (a7 : Int))) (h2 : ¬((a0 = (0 : Int)))) : (0 ≤ (a7 : Int)) := by omega
theorem ow_67_70 {a0 a1 a2 a3 a4 a5 a6 a7 : Int} (h0 : ((0 ≤ (a0 : Int)) ∧ ((a0 ≤ (1 : Int)) ∧ (((a0 = (1 : Int)) → ((a1 + 1) ≤ (a2 : Int))) ∧ (((a0 = (1 : Int)) → ((0 ≤ (a3 : Int)) ∧ (a3 ≤ (9999 : Int)))) ∧ (((a0 = (1 : Int)) → (a4 ≤ ((5 * (a5 - a6)) : Int))) ∧ (a6 ≤ (a5 : Int)))))))) (h1 : (a3 = (a7 : Int))) (h2 : ¬((a0 = (0 : Int)))) : (a7 ≤ (9999 : Int)) := by omega
theorem ow_67_71 {a0 a1 a2 a4 a5 a6 a7 a8 a9 a10 a11 a12 a13 a14 a15 a16 : Int} {k3 : Nat} (h0 : ((0 ≤ (a0 : Int)) ∧ (a0 ≤ (1 : Int)))) (h1 : ((((2 * ((5 * (500 - a1)) + a2)) + a0) : Int).toNat = (k3 : Nat))) (h2 : (((5 * (500 - a4)) + a5) ≤ (((5 * (500 - a1)) + a2) : Int))) (h3 : (a5 = (a6 : Int))) (h4 : (a6 = (2 : Int))) (h5 : ((0 ≤ (a7 : Int)) ∧ ((a7 ≤ (1 : Int)) ∧ (((a7 = (1 : Int)) → ((a8 + 1) ≤ (a9 : Int))) ∧ (((a7 = (1 : Int)) → ((0 ≤ (a10 : Int)) ∧ (a10 ≤ (9999 : Int)))) ∧ (((a7 = (1 : Int)) → (a11 ≤ ((5 * (a12 - a4)) : Int))) ∧ (a4 ≤ (a12 : Int)))))))) (h6 : (a12 = (a13 : Int))) (h7 : ((0 ≤ (a13 : Int)) ∧ (a13 ≤ (500 : Int)))) (h8 : (((((5 * (500 - a14)) + a15) + 1) ≤ (((5 * (500 - a1)) + a2) : Int)) ∧ (a15 ≤ ((5 * (a14 - a16)) : Int)))) : ((((2 * ((5 * (500 - a14)) + a15)) + 0) : Int).toNat < (k3 : Nat)) := by omega
theorem ow_67_72 {a0 a1 a2 a4 a5 a6 a7 a8 a9 a10 a11 a12 a13 a14 a15 a16 a17 a18 a19 a20 a21 a22 a23 : Int} {k3 : Nat} (h0 : ((0 ≤ (a0 : Int)) ∧ (a0 ≤ (1 : Int)))) (h1 : ((((2 * ((5 * (500 - a1)) + a2)) + a0) : Int).toNat = (k3 : Nat))) (h2 : ¬((a0 = (0 : Int)))) (h3 : (((5 * (500 - a4)) + a5) ≤ (((5 * (500 - a1)) + a2) : Int))) (h4 : (a5 = (a6 : Int))) (h5 : (a6 = (2 : Int))) (h6 : ((0 ≤ (a7 : Int)) ∧ ((a7 ≤ (1 : Int)) ∧ (((a7 = (1 : Int)) → ((a8 + 1) ≤ (a9 : Int))) ∧ (((a7 = (1 : Int)) → ((0 ≤ (a10 : Int)) ∧ (a10 ≤ (9999 : Int)))) ∧ (((a7 = (1 : Int)) → (a11 ≤ ((5 * (a12 - a4)) : Int))) ∧ (a4 ≤ (a12 : Int)))))))) (h7 : (a12 = (a13 : Int))) (h8 : ((0 ≤ (a13 : Int)) ∧ (a13 ≤ (500 : Int)))) (h9 : (((((5 * (500 - a14)) + a15) + 1) ≤ (((5 * (500 - a1)) + a2) : Int)) ∧ (a15 ≤ ((5 * (a14 - a16)) : Int)))) (h10 : (a14 = (a17 : Int))) (h11 : ((0 ≤ (a18 : Int)) ∧ ((a18 ≤ (1 : Int)) ∧ ((a18 = (1 : Int)) → (a15 = (3 : Int)))))) (h12 : ¬((a18 = (0 : Int)))) (h13 : (a19 = (a17 : Int))) (h14 : ((a19 ≤ (a20 : Int)) ∧ ((a20 ≤ (a21 : Int)) ∧ ((a21 ≤ (a22 : Int)) ∧ ((a23 ≤ ((4 * (a21 - a20)) : Int)) ∧ (a23 ≤ ((5 * (a21 - a19)) : Int))))))) : ((((2 * ((5 * (500 - a21)) + a23)) + 1) : Int).toNat < (k3 : Nat)) := by omega
theorem ow_67_73 {a0 a1 a3 a4 a5 a6 a7 a8 a9 : Int} {k2 : Nat} (h0 : ((((5 * (500 - a0)) + a1) : Int).toNat = (k2 : Nat))) (h1 : (a0 = (a3 : Int))) (h2 : ((0 ≤ (a3 : Int)) ∧ (a3 ≤ (500 : Int)))) (h3 : ((0 ≤ (a4 : Int)) ∧ ((a4 ≤ (1 : Int)) ∧ ((a4 = (1 : Int)) → (a1 = (3 : Int)))))) (h4 : ¬((a4 = (0 : Int)))) (h5 : (a5 = (a3 : Int))) (h6 : ((a5 ≤ (a6 : Int)) ∧ ((a6 ≤ (a7 : Int)) ∧ ((a7 ≤ (a8 : Int)) ∧ ((a9 ≤ ((4 * (a7 - a6)) : Int)) ∧ (a9 ≤ ((5 * (a7 - a5)) : Int))))))) : ((((5 * (500 - a7)) + a9) : Int).toNat < (k2 : Nat)) := by omega
theorem ow_67_74 {a0 a1 a2 a3 a4 a5 a6 a7 a8 : Int} (h0 : (a0 ≤ (a1 : Int))) (h1 : ((0 ≤ (a2 : Int)) ∧ ((a2 ≤ (1 : Int)) ∧ (((a2 = (1 : Int)) → ((a3 + 1) ≤ (a4 : Int))) ∧ (((a2 = (1 : Int)) → ((0 ≤ (a5 : Int)) ∧ (a5 ≤ (9999 : Int)))) ∧ (((a2 = (1 : Int)) → (a6 ≤ ((5 * (a7 - a1)) : Int))) ∧ (a1 ≤ (a7 : Int)))))))) (h2 : (a7 = (a8 : Int))) : (a0 ≤ (a8 : Int)) := by omega
theorem ow_67_75 {a0 a1 a2 a3 a4 a5 a6 a7 a8 a9 a10 a11 a12 a13 a14 a15 a16 : Int} (h0 : (a0 = (a1 : Int))) (h1 : (((a0 + a2) + a3) ≤ ((a4 + a5) : Int))) (h2 : (a2 = (a6 : Int))) (h3 : ((0 ≤ (a7 : Int)) ∧ ((a7 ≤ (1 : Int)) ∧ (((a7 = (1 : Int)) → ((a4 + 1) ≤ (a8 : Int))) ∧ (((a7 = (1 : Int)) → ((0 ≤ (a9 : Int)) ∧ (a9 ≤ (9999 : Int)))) ∧ (((a7 = (1 : Int)) → (a10 ≤ ((5 * (a11 - a12)) : Int))) ∧ (a12 ≤ (a11 : Int)))))))) (h4 : (a13 = (a1 : Int))) (h5 : (a8 = (a14 : Int))) (h6 : ¬((a7 = (0 : Int)))) (h7 : (a15 = ((a13 + 1) : Int))) (h8 : (a15 = (a16 : Int))) : (((a16 + a6) + a3) ≤ ((a14 + a5) : Int)) := by omega
theorem ow_67_76 {a0 a1 a2 a3 a4 a5 a6 a7 a8 a9 a10 a11 a12 a13 : Int} (h0 : (a0 ≤ (a1 : Int))) (h1 : (((5 * (500 - a1)) + a2) ≤ (((5 * (500 - a3)) + a4) : Int))) (h2 : (a2 = (a5 : Int))) (h3 : (a5 = (2 : Int))) (h4 : ((0 ≤ (a6 : Int)) ∧ ((a6 ≤ (1 : Int)) ∧ (((a6 = (1 : Int)) → ((a7 + 1) ≤ (a8 : Int))) ∧ (((a6 = (1 : Int)) → ((0 ≤ (a9 : Int)) ∧ (a9 ≤ (9999 : Int)))) ∧ (((a6 = (1 : Int)) → (a10 ≤ ((5 * (a11 - a1)) : Int))) ∧ (a1 ≤ (a11 : Int)))))))) (h5 : (a11 = (a12 : Int))) (h6 : (a10 = (a13 : Int))) (h7 : ¬((a6 = (0 : Int)))) : (((((5 * (500 - a12)) + a13) + 1) ≤ (((5 * (500 - a3)) + a4) : Int)) ∧ (a13 ≤ ((5 * (a12 - a0)) : Int))) := by omega
theorem ow_67_77 {a0 a1 a2 a3 a4 a5 a6 a7 : Int} (h0 : (a0 ≤ (a1 : Int))) (h1 : ((0 ≤ (a2 : Int)) ∧ ((a2 ≤ (1 : Int)) ∧ (((a2 = (1 : Int)) → ((a3 + 1) ≤ (a4 : Int))) ∧ (((a2 = (1 : Int)) → ((0 ≤ (a5 : Int)) ∧ (a5 ≤ (9999 : Int)))) ∧ (((a2 = (1 : Int)) → (a6 ≤ ((5 * (a7 - a1)) : Int))) ∧ (a1 ≤ (a7 : Int)))))))) : (a0 ≤ (a7 : Int)) := by omega
theorem ow_67_78 {a0 a1 a2 a3 a4 a5 a6 a7 : Int} (h0 : (a0 ≤ (a1 : Int))) (h1 : ((0 ≤ (a2 : Int)) ∧ (a2 ≤ (600 : Int)))) (h2 : (a3 = (a2 : Int))) (h3 : (((a3 + a4) + a1) ≤ ((a5 + a0) : Int))) (h4 : (a5 = (a6 : Int))) (h5 : ((0 ≤ (a6 : Int)) ∧ (a6 ≤ (500 : Int)))) (h6 : (a4 = (a7 : Int))) : (a7 < (((600 : Nat) : Int) : Int)) := by omega
theorem ow_67_79 {a0 a1 a2 a3 a4 a5 a6 a7 : Int} (h0 : (a0 ≤ (a1 : Int))) (h1 : ((0 ≤ (a2 : Int)) ∧ (a2 ≤ (600 : Int)))) (h2 : (a3 = (a2 : Int))) (h3 : (((a3 + a4) + a1) ≤ ((a5 + a0) : Int))) (h4 : (a5 = (a6 : Int))) (h5 : ((0 ≤ (a6 : Int)) ∧ (a6 ≤ (500 : Int)))) (h6 : (a4 = (a7 : Int))) : ((a7 + 1) ≤ (600 : Int)) := by omega
theorem ow_67_80 {a0 a1 : Int} (h0 : ((a0 + 1) = (a1 : Int))) : ((a0 + 1) = (a1 : Int)) := by omega
theorem ow_67_81 : ((0 - 0) = (0 : Int)) := by omega
theorem ow_67_82 {a0 a1 : Int} (h0 : ((0 ≤ (a0 : Int)) ∧ (a0 ≤ (8 : Int)))) (h1 : ((a0 + 1) = (a1 : Int))) : (0 ≤ (a1 : Int)) := by omega
theorem ow_67_83 {a0 a1 : Int} (h0 : ((0 ≤ (a0 : Int)) ∧ (a0 ≤ (8 : Int)))) (h1 : ¬((a0 = (8 : Int)))) (h2 : ((a0 + 1) = (a1 : Int))) : (a1 ≤ (8 : Int)) := by omega
theorem ow_67_84 {a0 a1 a2 a3 a4 a5 a6 a7 a8 a9 a10 a11 a12 a13 a14 a15 a16 : Int} (h0 : (a0 = (a1 : Int))) (h1 : (((a0 + a2) + a3) ≤ ((a4 + a5) : Int))) (h2 : (a6 = (a7 : Int))) (h3 : (a2 = (a8 : Int))) (h4 : (a9 ≤ ((4 * (a6 - a4)) : Int))) (h5 : ((0 ≤ (a10 : Int)) ∧ ((a10 ≤ (1 : Int)) ∧ ((a10 = (1 : Int)) → (a9 = (3 : Int)))))) (h6 : ¬((a10 = (0 : Int)))) (h7 : (a11 = (a7 : Int))) (h8 : (a12 = (a13 : Int))) (h9 : ((a11 ≤ (a12 : Int)) ∧ ((a12 ≤ (a14 : Int)) ∧ ((a14 ≤ (a15 : Int)) ∧ ((a16 ≤ ((4 * (a14 - a12)) : Int)) ∧ (a16 ≤ ((5 * (a14 - a11)) : Int))))))) : (((a1 + (a8 + 1)) + a3) ≤ ((a13 + a5) : Int)) := by omega
theorem ow_67_85 {a0 a1 a2 a3 a4 a5 a6 a7 a8 a9 a10 a11 a12 : Int} (h0 : (((5 * (500 - a0)) + a1) ≤ (((5 * (500 - a2)) + a3) : Int))) (h1 : (a0 = (a4 : Int))) (h2 : (a1 = (a5 : Int))) (h3 : ((0 ≤ (a5 : Int)) ∧ (a5 ≤ (4 : Int)))) (h4 : (a6 = (a4 : Int))) (h5 : (a7 = (a8 : Int))) (h6 : (a9 = (a10 : Int))) (h7 : ((a6 ≤ (a11 : Int)) ∧ ((a11 ≤ (a7 : Int)) ∧ ((a7 ≤ (a12 : Int)) ∧ ((a9 ≤ ((4 * (a7 - a11)) : Int)) ∧ (a9 ≤ ((5 * (a7 - a6)) : Int))))))) : (((5 * (500 - a8)) + a10) ≤ (((5 * (500 - a2)) + a3) : Int)) := by omega
theorem ow_67_86 {a0 a1 a2 : Int} (h0 : (a0 ≤ (a1 : Int))) (h1 : (a1 = (a2 : Int))) : (a0 ≤ (a2 : Int)) := by omega
theorem ow_67_87 {a0 : Int} (h0 : ((0 ≤ (a0 : Int)) ∧ (a0 ≤ (1 : Int)))) (h1 : ¬((a0 = (0 : Int)))) : ((1 - a0) = (0 : Int)) := by omega
theorem ow_67_88 {a0 a1 : Int} : (((5 * (500 - a0)) + a1) ≤ (((5 * (500 - a0)) + a1) : Int)) := by omega
theorem ow_67_89 {a0 a1 : Int} (h0 : (a0 = (a1 : Int))) : (a0 ≤ (a1 : Int)) := by omega
theorem ow_67_90 {a0 a1 : Int} (h0 : (a0 = (a1 : Int))) (h1 : ((0 ≤ (a1 : Int)) ∧ (a1 ≤ (600 : Int)))) : (0 ≤ (a0 : Int)) := by omega
theorem ow_67_91 {a0 a1 a2 a3 : Int} (h0 : (a0 = (a1 : Int))) (h1 : (a2 = (a3 : Int))) : (((a1 + 0) + a2) ≤ ((a3 + a0) : Int)) := by omega
noncomputable def F_X12_sumHere (V0 : pm_M) : Int × pm_M := pf_let (V0 90 33) fun y1 => pf_let (V0 90 4) fun y4 => pf_let (V0 90 1) fun y7 => pf_let (V0 90 2) fun y10 => pf_let (V0 90 3) fun y13 => pf_let (V0 90 39) fun y16 => pf_let ((pm_up V0 90 39 0)) fun V19 => pf_val ((0 : Int), V0) (fun (q : Int × Int × pm_M) => match q with | (x32, x34, V36) => (pf_let (V36 90 2) fun y53 => pf_let (V36 90 3) fun y56 => pf_let (V36 90 4) fun y59 => pf_let (V36 90 33) fun y62 => pf_let (V36 90 39) fun y65 => (if x34 = 0 then ((if x32 ≤ 0 then (pf_call (F_X12_empties 1 V36) fun _ V71 => pf_let (V71 90 33) fun y83 => pf_let (V71 90 39) fun y86 => (.inr (1, V71))) else ((.inr (0, V36))))) else (pf_val (.inr ((0 : Int), V0)) (fun (q : Int × pm_M) => match q with | (x89, V91) => (pf_let (V91 90 2) fun y109 => pf_let (V91 90 3) fun y112 => pf_let (V91 90 4) fun y115 => pf_let (V91 90 39) fun y118 => pf_call (F_X12_isSign 40 V91) fun y124 _ => (if y124 = 0 then ((if ¬ (y112 = 2) then (pf_call (F_X12_nameHere  V91) fun y132 _ => (if ¬ (y132 = (-1)) then (pf_call (F_X12_lays 1 y132 V91) fun _ V137 => pf_let (V137 90 33) fun y152 => pf_call (F_X12_leads  V137) fun _ V156 => pf_let (V156 90 2) fun y166 => pf_let (V156 90 3) fun y169 => pf_let (V156 90 4) fun y172 => pf_val (.inr (.inr ((0 : Int), V0))) (fun (q : Int × pm_M) => match q with | (x177, V179) => (pf_let (V179 90 2) fun y196 => pf_let (V179 90 3) fun y199 => pf_let (V179 90 4) fun y202 => pf_let (V179 90 33) fun y205 => pf_let (V179 90 39) fun y208 => pf_call (F_X12_isSign 41 V179) fun y214 _ => (if y214 = 0 then (pf_call (F_X12_isSign 43 V179) fun y221 _ => (if y221 = 0 then (pf_call (F_X12_isSign 45 V179) fun y228 _ => (if y228 = 0 then (pf_call (F_X12_isSign 42 V179) fun y235 _ => (if y235 = 0 then ((.inr (.inr (.inl (x177, 0, V179))))) else (pf_call (F_X12_rank 4 V179) fun y246 _ => pf_call (F_X12_empties y246 V179) fun _ V250 => pf_let (V250 90 33) fun y262 => pf_let (V250 90 39) fun y265 => pf_let ((pm_up (pm_up V250 109 (y265 : Int).toNat 4) 90 39 (y265 + 1))) fun V269 => pf_call (F_X12_leads  V269) fun _ V283 => pf_let (V283 90 2) fun y294 => pf_let (V283 90 3) fun y297 => pf_let (V283 90 4) fun y300 => (.inr (.inr (.inl (x177, 1, V283))))))) else (pf_call (F_X12_rank 3 V179) fun y310 _ => pf_call (F_X12_empties y310 V179) fun _ V314 => pf_let (V314 90 33) fun y326 => pf_let (V314 90 39) fun y329 => pf_let ((pm_up (pm_up V314 109 (y329 : Int).toNat 3) 90 39 (y329 + 1))) fun V333 => pf_call (F_X12_leads  V333) fun _ V347 => pf_let (V347 90 2) fun y358 => pf_let (V347 90 3) fun y361 => pf_let (V347 90 4) fun y364 => (.inr (.inr (.inl (x177, 1, V347))))))) else (pf_call (F_X12_rank 2 V179) fun y374 _ => pf_call (F_X12_empties y374 V179) fun _ V378 => pf_let (V378 90 33) fun y390 => pf_let (V378 90 39) fun y393 => pf_let ((pm_up (pm_up V378 109 (y393 : Int).toNat 2) 90 39 (y393 + 1))) fun V397 => pf_call (F_X12_leads  V397) fun _ V411 => pf_let (V411 90 2) fun y422 => pf_let (V411 90 3) fun y425 => pf_let (V411 90 4) fun y428 => (.inr (.inr (.inl (x177, 1, V411))))))) else ((if x177 ≤ 0 then (pf_call (F_X12_isSign 43 V179) fun y437 _ => (if y437 = 0 then (pf_call (F_X12_isSign 45 V179) fun y444 _ => (if y444 = 0 then (pf_call (F_X12_isSign 42 V179) fun y451 _ => (if y451 = 0 then ((.inr (.inr (.inl (x177, 0, V179))))) else (pf_call (F_X12_rank 4 V179) fun y462 _ => pf_call (F_X12_empties y462 V179) fun _ V466 => pf_let (V466 90 33) fun y478 => pf_let (V466 90 39) fun y481 => pf_let ((pm_up (pm_up V466 109 (y481 : Int).toNat 4) 90 39 (y481 + 1))) fun V485 => pf_call (F_X12_leads  V485) fun _ V499 => pf_let (V499 90 2) fun y510 => pf_let (V499 90 3) fun y513 => pf_let (V499 90 4) fun y516 => (.inr (.inr (.inl (x177, 1, V499))))))) else (pf_call (F_X12_rank 3 V179) fun y526 _ => pf_call (F_X12_empties y526 V179) fun _ V530 => pf_let (V530 90 33) fun y542 => pf_let (V530 90 39) fun y545 => pf_let ((pm_up (pm_up V530 109 (y545 : Int).toNat 3) 90 39 (y545 + 1))) fun V549 => pf_call (F_X12_leads  V549) fun _ V563 => pf_let (V563 90 2) fun y574 => pf_let (V563 90 3) fun y577 => pf_let (V563 90 4) fun y580 => (.inr (.inr (.inl (x177, 1, V563))))))) else (pf_call (F_X12_rank 2 V179) fun y590 _ => pf_call (F_X12_empties y590 V179) fun _ V594 => pf_let (V594 90 33) fun y606 => pf_let (V594 90 39) fun y609 => pf_let ((pm_up (pm_up V594 109 (y609 : Int).toNat 2) 90 39 (y609 + 1))) fun V613 => pf_call (F_X12_leads  V613) fun _ V627 => pf_let (V627 90 2) fun y638 => pf_let (V627 90 3) fun y641 => pf_let (V627 90 4) fun y644 => (.inr (.inr (.inl (x177, 1, V627))))))) else (pf_call (F_X12_empties 1 V179) fun _ V650 => pf_let (V650 90 33) fun y662 => pf_let (V650 90 39) fun y665 => pf_let (x177 + (-1)) fun x668 => pf_let ((pm_up V650 90 39 (y665 - 1))) fun V670 => pf_call (F_X12_leads  V670) fun _ V683 => pf_let (V683 90 2) fun y693 => pf_let (V683 90 3) fun y696 => pf_let (V683 90 4) fun y699 => (.inl (x668, V683)))))))) (x89, V156)) else ((.inr (.inr (0, V91)))))) else (pf_call (F_X12_number 0 9999 V91) fun y707 V705 => pf_let (V705 90 2) fun y718 => pf_let (V705 90 3) fun y721 => pf_let (V705 90 4) fun y724 => pf_let (V705 90 37) fun y727 => (if ¬ (y707 = 0) then (pf_call (F_X12_lays 0 y727 V705) fun _ V732 => pf_let (V732 90 33) fun y748 => pf_val (.inr (.inr ((0 : Int), V0))) (fun (q : Int × pm_M) => match q with | (x751, V753) => (pf_let (V753 90 2) fun y771 => pf_let (V753 90 3) fun y774 => pf_let (V753 90 4) fun y777 => pf_let (V753 90 33) fun y780 => pf_let (V753 90 39) fun y783 => pf_call (F_X12_isSign 41 V753) fun y789 _ => (if y789 = 0 then (pf_call (F_X12_isSign 43 V753) fun y796 _ => (if y796 = 0 then (pf_call (F_X12_isSign 45 V753) fun y803 _ => (if y803 = 0 then (pf_call (F_X12_isSign 42 V753) fun y810 _ => (if y810 = 0 then ((.inr (.inr (.inl (x751, 0, V753))))) else (pf_call (F_X12_rank 4 V753) fun y821 _ => pf_call (F_X12_empties y821 V753) fun _ V825 => pf_let (V825 90 33) fun y838 => pf_let (V825 90 39) fun y841 => pf_let ((pm_up (pm_up V825 109 (y841 : Int).toNat 4) 90 39 (y841 + 1))) fun V845 => pf_call (F_X12_leads  V845) fun _ V860 => pf_let (V860 90 2) fun y872 => pf_let (V860 90 3) fun y875 => pf_let (V860 90 4) fun y878 => (.inr (.inr (.inl (x751, 1, V860))))))) else (pf_call (F_X12_rank 3 V753) fun y888 _ => pf_call (F_X12_empties y888 V753) fun _ V892 => pf_let (V892 90 33) fun y905 => pf_let (V892 90 39) fun y908 => pf_let ((pm_up (pm_up V892 109 (y908 : Int).toNat 3) 90 39 (y908 + 1))) fun V912 => pf_call (F_X12_leads  V912) fun _ V927 => pf_let (V927 90 2) fun y939 => pf_let (V927 90 3) fun y942 => pf_let (V927 90 4) fun y945 => (.inr (.inr (.inl (x751, 1, V927))))))) else (pf_call (F_X12_rank 2 V753) fun y955 _ => pf_call (F_X12_empties y955 V753) fun _ V959 => pf_let (V959 90 33) fun y972 => pf_let (V959 90 39) fun y975 => pf_let ((pm_up (pm_up V959 109 (y975 : Int).toNat 2) 90 39 (y975 + 1))) fun V979 => pf_call (F_X12_leads  V979) fun _ V994 => pf_let (V994 90 2) fun y1006 => pf_let (V994 90 3) fun y1009 => pf_let (V994 90 4) fun y1012 => (.inr (.inr (.inl (x751, 1, V994))))))) else ((if x751 ≤ 0 then (pf_call (F_X12_isSign 43 V753) fun y1021 _ => (if y1021 = 0 then (pf_call (F_X12_isSign 45 V753) fun y1028 _ => (if y1028 = 0 then (pf_call (F_X12_isSign 42 V753) fun y1035 _ => (if y1035 = 0 then ((.inr (.inr (.inl (x751, 0, V753))))) else (pf_call (F_X12_rank 4 V753) fun y1046 _ => pf_call (F_X12_empties y1046 V753) fun _ V1050 => pf_let (V1050 90 33) fun y1063 => pf_let (V1050 90 39) fun y1066 => pf_let ((pm_up (pm_up V1050 109 (y1066 : Int).toNat 4) 90 39 (y1066 + 1))) fun V1070 => pf_call (F_X12_leads  V1070) fun _ V1085 => pf_let (V1085 90 2) fun y1097 => pf_let (V1085 90 3) fun y1100 => pf_let (V1085 90 4) fun y1103 => (.inr (.inr (.inl (x751, 1, V1085))))))) else (pf_call (F_X12_rank 3 V753) fun y1113 _ => pf_call (F_X12_empties y1113 V753) fun _ V1117 => pf_let (V1117 90 33) fun y1130 => pf_let (V1117 90 39) fun y1133 => pf_let ((pm_up (pm_up V1117 109 (y1133 : Int).toNat 3) 90 39 (y1133 + 1))) fun V1137 => pf_call (F_X12_leads  V1137) fun _ V1152 => pf_let (V1152 90 2) fun y1164 => pf_let (V1152 90 3) fun y1167 => pf_let (V1152 90 4) fun y1170 => (.inr (.inr (.inl (x751, 1, V1152))))))) else (pf_call (F_X12_rank 2 V753) fun y1180 _ => pf_call (F_X12_empties y1180 V753) fun _ V1184 => pf_let (V1184 90 33) fun y1197 => pf_let (V1184 90 39) fun y1200 => pf_let ((pm_up (pm_up V1184 109 (y1200 : Int).toNat 2) 90 39 (y1200 + 1))) fun V1204 => pf_call (F_X12_leads  V1204) fun _ V1219 => pf_let (V1219 90 2) fun y1231 => pf_let (V1219 90 3) fun y1234 => pf_let (V1219 90 4) fun y1237 => (.inr (.inr (.inl (x751, 1, V1219))))))) else (pf_call (F_X12_empties 1 V753) fun _ V1243 => pf_let (V1243 90 33) fun y1256 => pf_let (V1243 90 39) fun y1259 => pf_let (x751 + (-1)) fun x1262 => pf_let ((pm_up V1243 90 39 (y1259 - 1))) fun V1264 => pf_call (F_X12_leads  V1264) fun _ V1278 => pf_let (V1278 90 2) fun y1289 => pf_let (V1278 90 3) fun y1292 => pf_let (V1278 90 4) fun y1295 => (.inl (x1262, V1278)))))))) (x89, V732)) else ((.inr (.inr (0, V705)))))))) else ((if ¬ (x89 = 8) then (pf_let (x89 + 1) fun x1301 => pf_let ((pm_up (pm_up V91 109 (y118 : Int).toNat (-1)) 90 39 (y118 + 1))) fun V1304 => pf_call (F_X12_leads  V1304) fun _ V1318 => pf_let (V1318 90 2) fun y1329 => pf_let (V1318 90 3) fun y1332 => pf_let (V1318 90 4) fun y1335 => (.inl (x1301, V1318))) else ((.inr (.inr (0, V91))))))))) (x32, V36))))) (0, 1, V19)
theorem F_X12_sumHere_eq (V0 : pm_M) : F_X12_sumHere V0 = pf_let (V0 90 33) fun y1 => pf_let (V0 90 4) fun y4 => pf_let (V0 90 1) fun y7 => pf_let (V0 90 2) fun y10 => pf_let (V0 90 3) fun y13 => pf_let (V0 90 39) fun y16 => pf_let ((pm_up V0 90 39 0)) fun V19 => pf_val ((0 : Int), V0) (fun (q : Int × Int × pm_M) => match q with | (x32, x34, V36) => (pf_let (V36 90 2) fun y53 => pf_let (V36 90 3) fun y56 => pf_let (V36 90 4) fun y59 => pf_let (V36 90 33) fun y62 => pf_let (V36 90 39) fun y65 => (if x34 = 0 then ((if x32 ≤ 0 then (pf_call (F_X12_empties 1 V36) fun _ V71 => pf_let (V71 90 33) fun y83 => pf_let (V71 90 39) fun y86 => (.inr (1, V71))) else ((.inr (0, V36))))) else (pf_val (.inr ((0 : Int), V0)) (fun (q : Int × pm_M) => match q with | (x89, V91) => (pf_let (V91 90 2) fun y109 => pf_let (V91 90 3) fun y112 => pf_let (V91 90 4) fun y115 => pf_let (V91 90 39) fun y118 => pf_call (F_X12_isSign 40 V91) fun y124 _ => (if y124 = 0 then ((if ¬ (y112 = 2) then (pf_call (F_X12_nameHere  V91) fun y132 _ => (if ¬ (y132 = (-1)) then (pf_call (F_X12_lays 1 y132 V91) fun _ V137 => pf_let (V137 90 33) fun y152 => pf_call (F_X12_leads  V137) fun _ V156 => pf_let (V156 90 2) fun y166 => pf_let (V156 90 3) fun y169 => pf_let (V156 90 4) fun y172 => pf_val (.inr (.inr ((0 : Int), V0))) (fun (q : Int × pm_M) => match q with | (x177, V179) => (pf_let (V179 90 2) fun y196 => pf_let (V179 90 3) fun y199 => pf_let (V179 90 4) fun y202 => pf_let (V179 90 33) fun y205 => pf_let (V179 90 39) fun y208 => pf_call (F_X12_isSign 41 V179) fun y214 _ => (if y214 = 0 then (pf_call (F_X12_isSign 43 V179) fun y221 _ => (if y221 = 0 then (pf_call (F_X12_isSign 45 V179) fun y228 _ => (if y228 = 0 then (pf_call (F_X12_isSign 42 V179) fun y235 _ => (if y235 = 0 then ((.inr (.inr (.inl (x177, 0, V179))))) else (pf_call (F_X12_rank 4 V179) fun y246 _ => pf_call (F_X12_empties y246 V179) fun _ V250 => pf_let (V250 90 33) fun y262 => pf_let (V250 90 39) fun y265 => pf_let ((pm_up (pm_up V250 109 (y265 : Int).toNat 4) 90 39 (y265 + 1))) fun V269 => pf_call (F_X12_leads  V269) fun _ V283 => pf_let (V283 90 2) fun y294 => pf_let (V283 90 3) fun y297 => pf_let (V283 90 4) fun y300 => (.inr (.inr (.inl (x177, 1, V283))))))) else (pf_call (F_X12_rank 3 V179) fun y310 _ => pf_call (F_X12_empties y310 V179) fun _ V314 => pf_let (V314 90 33) fun y326 => pf_let (V314 90 39) fun y329 => pf_let ((pm_up (pm_up V314 109 (y329 : Int).toNat 3) 90 39 (y329 + 1))) fun V333 => pf_call (F_X12_leads  V333) fun _ V347 => pf_let (V347 90 2) fun y358 => pf_let (V347 90 3) fun y361 => pf_let (V347 90 4) fun y364 => (.inr (.inr (.inl (x177, 1, V347))))))) else (pf_call (F_X12_rank 2 V179) fun y374 _ => pf_call (F_X12_empties y374 V179) fun _ V378 => pf_let (V378 90 33) fun y390 => pf_let (V378 90 39) fun y393 => pf_let ((pm_up (pm_up V378 109 (y393 : Int).toNat 2) 90 39 (y393 + 1))) fun V397 => pf_call (F_X12_leads  V397) fun _ V411 => pf_let (V411 90 2) fun y422 => pf_let (V411 90 3) fun y425 => pf_let (V411 90 4) fun y428 => (.inr (.inr (.inl (x177, 1, V411))))))) else ((if x177 ≤ 0 then (pf_call (F_X12_isSign 43 V179) fun y437 _ => (if y437 = 0 then (pf_call (F_X12_isSign 45 V179) fun y444 _ => (if y444 = 0 then (pf_call (F_X12_isSign 42 V179) fun y451 _ => (if y451 = 0 then ((.inr (.inr (.inl (x177, 0, V179))))) else (pf_call (F_X12_rank 4 V179) fun y462 _ => pf_call (F_X12_empties y462 V179) fun _ V466 => pf_let (V466 90 33) fun y478 => pf_let (V466 90 39) fun y481 => pf_let ((pm_up (pm_up V466 109 (y481 : Int).toNat 4) 90 39 (y481 + 1))) fun V485 => pf_call (F_X12_leads  V485) fun _ V499 => pf_let (V499 90 2) fun y510 => pf_let (V499 90 3) fun y513 => pf_let (V499 90 4) fun y516 => (.inr (.inr (.inl (x177, 1, V499))))))) else (pf_call (F_X12_rank 3 V179) fun y526 _ => pf_call (F_X12_empties y526 V179) fun _ V530 => pf_let (V530 90 33) fun y542 => pf_let (V530 90 39) fun y545 => pf_let ((pm_up (pm_up V530 109 (y545 : Int).toNat 3) 90 39 (y545 + 1))) fun V549 => pf_call (F_X12_leads  V549) fun _ V563 => pf_let (V563 90 2) fun y574 => pf_let (V563 90 3) fun y577 => pf_let (V563 90 4) fun y580 => (.inr (.inr (.inl (x177, 1, V563))))))) else (pf_call (F_X12_rank 2 V179) fun y590 _ => pf_call (F_X12_empties y590 V179) fun _ V594 => pf_let (V594 90 33) fun y606 => pf_let (V594 90 39) fun y609 => pf_let ((pm_up (pm_up V594 109 (y609 : Int).toNat 2) 90 39 (y609 + 1))) fun V613 => pf_call (F_X12_leads  V613) fun _ V627 => pf_let (V627 90 2) fun y638 => pf_let (V627 90 3) fun y641 => pf_let (V627 90 4) fun y644 => (.inr (.inr (.inl (x177, 1, V627))))))) else (pf_call (F_X12_empties 1 V179) fun _ V650 => pf_let (V650 90 33) fun y662 => pf_let (V650 90 39) fun y665 => pf_let (x177 + (-1)) fun x668 => pf_let ((pm_up V650 90 39 (y665 - 1))) fun V670 => pf_call (F_X12_leads  V670) fun _ V683 => pf_let (V683 90 2) fun y693 => pf_let (V683 90 3) fun y696 => pf_let (V683 90 4) fun y699 => (.inl (x668, V683)))))))) (x89, V156)) else ((.inr (.inr (0, V91)))))) else (pf_call (F_X12_number 0 9999 V91) fun y707 V705 => pf_let (V705 90 2) fun y718 => pf_let (V705 90 3) fun y721 => pf_let (V705 90 4) fun y724 => pf_let (V705 90 37) fun y727 => (if ¬ (y707 = 0) then (pf_call (F_X12_lays 0 y727 V705) fun _ V732 => pf_let (V732 90 33) fun y748 => pf_val (.inr (.inr ((0 : Int), V0))) (fun (q : Int × pm_M) => match q with | (x751, V753) => (pf_let (V753 90 2) fun y771 => pf_let (V753 90 3) fun y774 => pf_let (V753 90 4) fun y777 => pf_let (V753 90 33) fun y780 => pf_let (V753 90 39) fun y783 => pf_call (F_X12_isSign 41 V753) fun y789 _ => (if y789 = 0 then (pf_call (F_X12_isSign 43 V753) fun y796 _ => (if y796 = 0 then (pf_call (F_X12_isSign 45 V753) fun y803 _ => (if y803 = 0 then (pf_call (F_X12_isSign 42 V753) fun y810 _ => (if y810 = 0 then ((.inr (.inr (.inl (x751, 0, V753))))) else (pf_call (F_X12_rank 4 V753) fun y821 _ => pf_call (F_X12_empties y821 V753) fun _ V825 => pf_let (V825 90 33) fun y838 => pf_let (V825 90 39) fun y841 => pf_let ((pm_up (pm_up V825 109 (y841 : Int).toNat 4) 90 39 (y841 + 1))) fun V845 => pf_call (F_X12_leads  V845) fun _ V860 => pf_let (V860 90 2) fun y872 => pf_let (V860 90 3) fun y875 => pf_let (V860 90 4) fun y878 => (.inr (.inr (.inl (x751, 1, V860))))))) else (pf_call (F_X12_rank 3 V753) fun y888 _ => pf_call (F_X12_empties y888 V753) fun _ V892 => pf_let (V892 90 33) fun y905 => pf_let (V892 90 39) fun y908 => pf_let ((pm_up (pm_up V892 109 (y908 : Int).toNat 3) 90 39 (y908 + 1))) fun V912 => pf_call (F_X12_leads  V912) fun _ V927 => pf_let (V927 90 2) fun y939 => pf_let (V927 90 3) fun y942 => pf_let (V927 90 4) fun y945 => (.inr (.inr (.inl (x751, 1, V927))))))) else (pf_call (F_X12_rank 2 V753) fun y955 _ => pf_call (F_X12_empties y955 V753) fun _ V959 => pf_let (V959 90 33) fun y972 => pf_let (V959 90 39) fun y975 => pf_let ((pm_up (pm_up V959 109 (y975 : Int).toNat 2) 90 39 (y975 + 1))) fun V979 => pf_call (F_X12_leads  V979) fun _ V994 => pf_let (V994 90 2) fun y1006 => pf_let (V994 90 3) fun y1009 => pf_let (V994 90 4) fun y1012 => (.inr (.inr (.inl (x751, 1, V994))))))) else ((if x751 ≤ 0 then (pf_call (F_X12_isSign 43 V753) fun y1021 _ => (if y1021 = 0 then (pf_call (F_X12_isSign 45 V753) fun y1028 _ => (if y1028 = 0 then (pf_call (F_X12_isSign 42 V753) fun y1035 _ => (if y1035 = 0 then ((.inr (.inr (.inl (x751, 0, V753))))) else (pf_call (F_X12_rank 4 V753) fun y1046 _ => pf_call (F_X12_empties y1046 V753) fun _ V1050 => pf_let (V1050 90 33) fun y1063 => pf_let (V1050 90 39) fun y1066 => pf_let ((pm_up (pm_up V1050 109 (y1066 : Int).toNat 4) 90 39 (y1066 + 1))) fun V1070 => pf_call (F_X12_leads  V1070) fun _ V1085 => pf_let (V1085 90 2) fun y1097 => pf_let (V1085 90 3) fun y1100 => pf_let (V1085 90 4) fun y1103 => (.inr (.inr (.inl (x751, 1, V1085))))))) else (pf_call (F_X12_rank 3 V753) fun y1113 _ => pf_call (F_X12_empties y1113 V753) fun _ V1117 => pf_let (V1117 90 33) fun y1130 => pf_let (V1117 90 39) fun y1133 => pf_let ((pm_up (pm_up V1117 109 (y1133 : Int).toNat 3) 90 39 (y1133 + 1))) fun V1137 => pf_call (F_X12_leads  V1137) fun _ V1152 => pf_let (V1152 90 2) fun y1164 => pf_let (V1152 90 3) fun y1167 => pf_let (V1152 90 4) fun y1170 => (.inr (.inr (.inl (x751, 1, V1152))))))) else (pf_call (F_X12_rank 2 V753) fun y1180 _ => pf_call (F_X12_empties y1180 V753) fun _ V1184 => pf_let (V1184 90 33) fun y1197 => pf_let (V1184 90 39) fun y1200 => pf_let ((pm_up (pm_up V1184 109 (y1200 : Int).toNat 2) 90 39 (y1200 + 1))) fun V1204 => pf_call (F_X12_leads  V1204) fun _ V1219 => pf_let (V1219 90 2) fun y1231 => pf_let (V1219 90 3) fun y1234 => pf_let (V1219 90 4) fun y1237 => (.inr (.inr (.inl (x751, 1, V1219))))))) else (pf_call (F_X12_empties 1 V753) fun _ V1243 => pf_let (V1243 90 33) fun y1256 => pf_let (V1243 90 39) fun y1259 => pf_let (x751 + (-1)) fun x1262 => pf_let ((pm_up V1243 90 39 (y1259 - 1))) fun V1264 => pf_call (F_X12_leads  V1264) fun _ V1278 => pf_let (V1278 90 2) fun y1289 => pf_let (V1278 90 3) fun y1292 => pf_let (V1278 90 4) fun y1295 => (.inl (x1262, V1278)))))))) (x89, V732)) else ((.inr (.inr (0, V705)))))))) else ((if ¬ (x89 = 8) then (pf_let (x89 + 1) fun x1301 => pf_let ((pm_up (pm_up V91 109 (y118 : Int).toNat (-1)) 90 39 (y118 + 1))) fun V1304 => pf_call (F_X12_leads  V1304) fun _ V1318 => pf_let (V1318 90 2) fun y1329 => pf_let (V1318 90 3) fun y1332 => pf_let (V1318 90 4) fun y1335 => (.inl (x1301, V1318))) else ((.inr (.inr (0, V91))))))))) (x32, V36))))) (0, 1, V19) := rfl
set_option maxHeartbeats 4000000 in
set_option maxRecDepth 100000 in
theorem fP_X12_sumHere  : pm_K 7 yX12_sumHere cX12_sumHere 4 (some .boolean) (fun av V => av = [(3, 90)] ∧ pm_oq pm_qP V ∧ (V 90 33 ≤ V 90 4) ∧ pm_az V ∧ pm_tk V ∧ pm_rw V) (fun _ V r V' => ∃ y, r = some (0, y) ∧ (0 ≤ y ∧ y ≤ 1 ∧ (y = 1 → V' 90 3 ≤ 5 * (V' 90 2 - V 90 2)) ∧ (V 90 2 ≤ V' 90 2)) ∧ pm_oq pm_qP V' ∧ pm_fs [107, 109] [2, 3, 4, 5, 33, 37, 39] V V' ∧ pm_az V' ∧ pm_tk V' ∧ (y = 1 → pm_wc (V' 107) (V' 90 33).toNat ∧ pm_hv (V' 107) (V' 90 33).toNat = pm_hv (V 107) (V 90 33).toNat + 1 ∧ pm_la (V' 107) (V' 90 33).toNat = pm_la (V 107) (V 90 33).toNat) ∧ (y = 1 → V' 90 33 + V 90 4 ≤ V' 90 4 + V 90 33) ∧ F_X12_sumHere  V = (y, V')) := by
  refine pm_MT.of (by decide) ⟨Nat.le_refl _, by decide⟩ (fun av V h => by rw [h.1]; exact (by decide : pm_words [(3, 0)] ≤ 4)) ?_
  rintro X av V0 hC - hR ⟨rfl, hV0, hmp0, hn_pm_az, hn_pm_tk, hn_pm_rw⟩
  change pm_J X 0 [(0, (3, 90))] [] 118 V0
  have hT := F_X12_sumHere_eq  V0
  obtain ⟨y1, e2⟩ : ∃ y, V0 90 33 = y := ⟨_, rfl⟩
  have b3 := hV0.get 90 33 (lo := 0) (hi := 600) (by decide) (by decide) rfl
  rw [e2] at b3
  replace hT := hT.trans (pf_let_eq e2)
  obtain ⟨y4, e5⟩ : ∃ y, V0 90 4 = y := ⟨_, rfl⟩
  have b6 := hV0.get 90 4 (lo := 0) (hi := 500) (by decide) (by decide) rfl
  rw [e5] at b6
  replace hT := hT.trans (pf_let_eq e5)
  obtain ⟨y7, e8⟩ : ∃ y, V0 90 1 = y := ⟨_, rfl⟩
  have b9 := hV0.get 90 1 (lo := 0) (hi := 500) (by decide) (by decide) rfl
  rw [e8] at b9
  replace hT := hT.trans (pf_let_eq e8)
  obtain ⟨y10, e11⟩ : ∃ y, V0 90 2 = y := ⟨_, rfl⟩
  have b12 := hV0.get 90 2 (lo := 0) (hi := 500) (by decide) (by decide) rfl
  rw [e11] at b12
  replace hT := hT.trans (pf_let_eq e11)
  obtain ⟨y13, e14⟩ : ∃ y, V0 90 3 = y := ⟨_, rfl⟩
  have b15 := hV0.get 90 3 (lo := 0) (hi := 4) (by decide) (by decide) rfl
  rw [e14] at b15
  replace hT := hT.trans (pf_let_eq e14)
  obtain ⟨y16, e17⟩ : ∃ y, V0 90 39 = y := ⟨_, rfl⟩
  have b18 := hV0.get 90 39 (lo := 0) (hi := 600) (by decide) (by decide) rfl
  rw [e17] at b18
  replace hT := hT.trans (pf_let_eq e17)
  have hsz := hn_pm_az
  unfold pm_az at hsz
  rw [e11, e8] at hsz
  have htk := hn_pm_tk
  unfold pm_tk at htk
  obtain ⟨H0, hH0⟩ : ∃ H0, pm_hv (V0 107) (V0 90 33).toNat = H0 := ⟨_, rfl⟩
  obtain ⟨L0, hL0⟩ : ∃ L0, pm_la (V0 107) (V0 90 33).toNat = L0 := ⟨_, rfl⟩
  have hw0 := hn_pm_rw.1
  have hh0 := hn_pm_rw.2
  rw [hH0] at hh0
  refine pm_aload_n hC 0 (by decide) dX12_sumHere_0 rfl ?_
  refine pm_iconst (v := 0) hC dX12_sumHere_1 ?_
  refine pm_putf hC 90 fl_X12_241 rfl rfl rfl (by decide) rfl trivial dX12_sumHere_2 ?_
  have hV21 := (hV0.put 90 39 (x := 0) (lo := 0) (hi := 600) rfl ⟨by decide, by decide⟩)
  have hF22 := ((pm_fs.rf (cs := [107, 109]) (fs := [2, 3, 4, 5, 33, 37, 39]) (V := V0)).upf 39 0 rfl)
  obtain ⟨V19, hv20⟩ : ∃ V, V = (pm_up V0 90 39 0) := ⟨_, rfl⟩
  rw [← hv20] at hV21 hF22
  rw [← hv20]
  replace hT := hT.trans (pf_let_eq hv20.symm)
  have e23 : V19 90 33 = y1 := by rw [hv20]; exact e2
  have e24 : V19 90 4 = y4 := by rw [hv20]; exact e5
  have e25 : V19 90 1 = y7 := by rw [hv20]; exact e8
  have e26 : V19 90 2 = y10 := by rw [hv20]; exact e11
  have e27 : V19 90 3 = y13 := by rw [hv20]; exact e14
  have e28 : V19 90 39 = 0 := by rw [hv20]; rfl
  have hp29 : pm_az V19 := by rw [hv20]; exact (pm_az.fr hn_pm_az rfl rfl)
  have hp30 : pm_tk V19 := by rw [hv20]; exact (pm_tk.fr hn_pm_tk rfl rfl rfl)
  have hp31 : pm_rw V19 := by rw [hv20]; exact (pm_rw.fr hn_pm_rw rfl rfl)
  refine pm_iconst (v := 0) hC dX12_sumHere_5 ?_
  refine pm_istore_n (lv' := [(1, (0, 0)), (0, (3, 90))]) hC dX12_sumHere_6 (by decide) rfl ?_
  refine pm_iconst (v := 1) hC dX12_sumHere_7 ?_
  refine pm_istore_n (lv' := [(2, (0, 1)), (1, (0, 0)), (0, (3, 90))]) hC dX12_sumHere_8 (by decide) rfl ?_
  obtain ⟨B46, hB47, hT⟩ := pf_loop hT
  have L49 : ∀ (N51 : Nat) (x32 : Int) (x34 : Int) (V36 : pm_M), (0 ≤ x32 ∧ x32 ≤ 8) → (0 ≤ x34 ∧ x34 ≤ 1) → pm_oq pm_qP V36 → pm_fs [107, 109] [2, 3, 4, 5, 33, 37, 39] V0 V36 → V36 90 1 = y7 → pm_az V36 → pm_tk V36 → (V0 90 2 ≤ V36 90 2) → (pm_SX V36 x32 H0 L0 (1 - x34)) → (V36 90 33 + V36 90 39 + V0 90 4 ≤ V36 90 4 + V0 90 33) → (x34 = 0 → V36 90 3 ≤ 5 * (V36 90 2 - V0 90 2)) → F_X12_sumHere  V0 = pf_val ((0 : Int), V0) B46 (x32, x34, V36) → (Int.toNat (2 * (5 * (500 - V36 90 2) + V36 90 3) + x34)) = N51 → pm_J X 9 [(0, (3, 90)), (1, (0, x32)), (2, (0, x34))] [] 118 V36 := by
    intro N51
    induction N51 using Nat.strongRecOn with
    | _ N51 ih52 =>
    intro x32 x34 V36 b33 b35 hV37 hF38 e39 hp40 hp41 hm42 hx43 hx44 hx45 hT hm50
    have hb48 := congrFun hB47 (x32, x34, V36)
    obtain ⟨y53, e54⟩ : ∃ y, V36 90 2 = y := ⟨_, rfl⟩
    have b55 := hV37.get 90 2 (lo := 0) (hi := 500) (by decide) (by decide) rfl
    rw [e54] at b55
    replace hb48 := hb48.trans (pf_let_eq e54)
    obtain ⟨y56, e57⟩ : ∃ y, V36 90 3 = y := ⟨_, rfl⟩
    have b58 := hV37.get 90 3 (lo := 0) (hi := 4) (by decide) (by decide) rfl
    rw [e57] at b58
    replace hb48 := hb48.trans (pf_let_eq e57)
    obtain ⟨y59, e60⟩ : ∃ y, V36 90 4 = y := ⟨_, rfl⟩
    have b61 := hV37.get 90 4 (lo := 0) (hi := 500) (by decide) (by decide) rfl
    rw [e60] at b61
    replace hb48 := hb48.trans (pf_let_eq e60)
    obtain ⟨y62, e63⟩ : ∃ y, V36 90 33 = y := ⟨_, rfl⟩
    have b64 := hV37.get 90 33 (lo := 0) (hi := 600) (by decide) (by decide) rfl
    rw [e63] at b64
    replace hb48 := hb48.trans (pf_let_eq e63)
    obtain ⟨y65, e66⟩ : ∃ y, V36 90 39 = y := ⟨_, rfl⟩
    have b67 := hV37.get 90 39 (lo := 0) (hi := 600) (by decide) (by decide) rfl
    rw [e66] at b67
    replace hb48 := hb48.trans (pf_let_eq e66)
    have hS := hx43
    have hLn := hx44
    have htk := hp41
    unfold pm_tk at htk
    refine pm_iload_n hC 2 dX12_sumHere_9 rfl ?_
    refine pm_if_eq (tgt := 247) hC ⟨by exact ow_67_0 b35, by exact ow_67_1 b35⟩ dX12_sumHere_10 (by decide) (fun c68 => ?_) (fun c68 => ?_)
    · skip
      replace hb48 := hb48.trans (if_pos c68)
      refine pm_iload_n hC 1 dX12_sumHere_247 rfl ?_
      refine pm_if_le (tgt := 253) hC ⟨by exact ow_67_2 b33, by exact ow_67_3 b33⟩ dX12_sumHere_248 (by decide) (fun c69 => ?_) (fun c69 => ?_)
      · skip
        replace hb48 := hb48.trans (if_pos c69)
        refine pm_aload_n hC 0 (by decide) dX12_sumHere_253 rfl ?_
        have hS := hS.cast (o1 := 0) (b1 := 1) (by exact ow_67_4 b33 c69) (by exact ow_67_5 b35 c68)
        refine pm_iconst (v := 1) hC dX12_sumHere_254 ?_
        refine pm_callV (ci := 12) (as := [(0, 1)]) (st := []) hC 90 (fP_X12_empties 1 ⟨by decide, by decide⟩) lm_X12_265 li_X12_empties (by decide) (by decide) rfl rfl rfl (by decide) rfl rfl (Nat.le_of_ble_eq_true rfl) ⟨Nat.le_refl _, Or.inl rfl⟩ dX12_sumHere_255 ⟨rfl, hV37, (show V36 90 33 + V36 90 39 ≤ 600 by exact ow_67_6 hmp0 hx44 e60 b61)⟩ (fun r70 V71 hp72 => ?_)
        obtain ⟨rfl, hV73, hF74, hE75⟩ := hp72
        replace hb48 := hb48.trans (pf_call_eq hE75)
        change pm_J X 258 [(0, (3, 90)), (1, (0, x32)), (2, (0, x34))] [] 118 V71
        have hF76 := pm_fs.tr hF38 hF74 (by decide) (by decide)
        have e77 : V71 90 1 = y7 := by rw [hF74.2 1 (by decide)]; exact e39
        have e78 : V71 90 2 = y53 := by rw [hF74.2 2 (by decide)]; exact e54
        have e79 : V71 90 3 = y56 := by rw [hF74.2 3 (by decide)]; exact e57
        have e80 : V71 90 4 = y59 := by rw [hF74.2 4 (by decide)]; exact e60
        have hp81 : pm_az V71 := (pm_az.fr hp40 (hF74.2 1 (by decide)) (hF74.2 2 (by decide)))
        have hp82 : pm_tk V71 := (pm_tk.fr hp41 (hF74.2 2 (by decide)) (hF74.2 3 (by decide)) (hF74.2 4 (by decide)))
        obtain ⟨hS, hLe, hTp, hE1, hE2⟩ := pm_sa_empt hS hE75
        have hPo := hS.pos
        replace hTp := hTp rfl
        obtain ⟨y83, e84⟩ : ∃ y, V71 90 33 = y := ⟨_, rfl⟩
        have b85 := hV73.get 90 33 (lo := 0) (hi := 600) (by decide) (by decide) rfl
        rw [e84] at b85
        replace hb48 := hb48.trans (pf_let_eq e84)
        obtain ⟨y86, e87⟩ : ∃ y, V71 90 39 = y := ⟨_, rfl⟩
        have b88 := hV73.get 90 39 (lo := 0) (hi := 600) (by decide) (by decide) rfl
        rw [e87] at b88
        replace hb48 := hb48.trans (pf_let_eq e87)
        clear hE1 hE2
        refine pm_iconst (v := 1) hC dX12_sumHere_258 ?_
        replace hT := hT.trans (pf_val_inr hb48)
        exact pm_iret hC hR (pm_narZ (by exact ow_67_7)) ⟨1, rfl, ⟨by exact ow_67_8, by exact ow_67_9, by exact ow_67_10 b35 hx45 e54 e57 c68 e78 e79, by exact ow_67_11 hm42 e54 e78⟩, hV73, hF76, hp81, hp82, (fun _ => by rw [hH0, hL0]; exact pm_su_end hS hTp), (fun _ => by exact ow_67_12 hx44 e60 e80 hLe hPo), hT⟩ dX12_sumHere_259
      · skip
        replace hb48 := hb48.trans (if_neg (Int.not_le.mpr c69))
        refine pm_iconst (v := 0) hC dX12_sumHere_251 ?_
        replace hT := hT.trans (pf_val_inr hb48)
        exact pm_iret hC hR (pm_narZ (by exact ow_67_13)) ⟨0, rfl, ⟨by exact ow_67_14, by exact ow_67_8, by exact ow_67_15, by exact ow_67_16 hm42⟩, hV37, hF38, hp40, hp41, (fun q => absurd q (by decide)), (fun q => absurd q (by decide)), hT⟩ dX12_sumHere_252
    · skip
      replace hb48 := hb48.trans (if_neg c68)
      obtain ⟨B102, hB103, hb48⟩ := pf_loop hb48
      have L105 : ∀ (N107 : Nat) (x89 : Int) (V91 : pm_M), (0 ≤ x89 ∧ x89 ≤ 8) → pm_oq pm_qP V91 → pm_fs [107, 109] [2, 3, 4, 5, 33, 37, 39] V0 V91 → V91 90 1 = y7 → V91 90 33 = y62 → pm_az V91 → pm_tk V91 → (V0 90 2 ≤ V91 90 2) → (pm_SX V91 x89 H0 L0 0) → (V91 90 33 + V91 90 39 + V0 90 4 ≤ V91 90 4 + V0 90 33) → (5 * (500 - V91 90 2) + V91 90 3 ≤ 5 * (500 - V36 90 2) + V36 90 3) → B46 (x32, x34, V36) = pf_val (.inr ((0 : Int), V0)) B102 (x89, V91) → (Int.toNat (5 * (500 - V91 90 2) + V91 90 3)) = N107 → pm_J X 13 [(0, (3, 90)), (1, (0, x89)), (2, (0, x34))] [] 118 V91 := by
        intro N107
        induction N107 using Nat.strongRecOn with
        | _ N107 ih108 =>
        intro x89 V91 b90 hV92 hF93 e94 e95 hp96 hp97 hm98 hx99 hx100 hx101 hb48 hm106
        have hb104 := congrFun hB103 (x89, V91)
        obtain ⟨y109, e110⟩ : ∃ y, V91 90 2 = y := ⟨_, rfl⟩
        have b111 := hV92.get 90 2 (lo := 0) (hi := 500) (by decide) (by decide) rfl
        rw [e110] at b111
        replace hb104 := hb104.trans (pf_let_eq e110)
        obtain ⟨y112, e113⟩ : ∃ y, V91 90 3 = y := ⟨_, rfl⟩
        have b114 := hV92.get 90 3 (lo := 0) (hi := 4) (by decide) (by decide) rfl
        rw [e113] at b114
        replace hb104 := hb104.trans (pf_let_eq e113)
        obtain ⟨y115, e116⟩ : ∃ y, V91 90 4 = y := ⟨_, rfl⟩
        have b117 := hV92.get 90 4 (lo := 0) (hi := 500) (by decide) (by decide) rfl
        rw [e116] at b117
        replace hb104 := hb104.trans (pf_let_eq e116)
        obtain ⟨y118, e119⟩ : ∃ y, V91 90 39 = y := ⟨_, rfl⟩
        have b120 := hV92.get 90 39 (lo := 0) (hi := 600) (by decide) (by decide) rfl
        rw [e119] at b120
        replace hb104 := hb104.trans (pf_let_eq e119)
        have hS := hx99
        have hLn := hx100
        have htk := hp97
        unfold pm_tk at htk
        refine pm_aload_n hC 0 (by decide) dX12_sumHere_13 rfl ?_
        refine pm_bipush (v := 40) hC dX12_sumHere_14 (by decide) ?_
        refine pm_callV (ci := 12) (as := [(0, 40)]) (st := []) hC 90 (fP_X12_isSign 40 ⟨by decide, by decide⟩) lm_X12_145 li_X12_isSign (by decide) (by decide) rfl rfl rfl (by decide) rfl rfl (Nat.le_of_ble_eq_true rfl) ⟨Nat.le_refl _, Or.inl rfl⟩ dX12_sumHere_16 ⟨rfl, hV92⟩ (fun r121 V122 hp123 => ?_)
        obtain ⟨y124, rfl, b125, rfl, hE126⟩ := hp123
        replace hb104 := hb104.trans (pf_call_eq hE126)
        change pm_J X 19 [(0, (3, 90)), (1, (0, x89)), (2, (0, x34))] [(0, y124)] 118 V91
        refine pm_if_eq (tgt := 60) hC ⟨by exact ow_67_17 b125, by exact ow_67_18 b125⟩ dX12_sumHere_19 (by decide) (fun c127 => ?_) (fun c127 => ?_)
        · skip
          replace hb104 := hb104.trans (if_pos c127)
          refine pm_aload_n hC 0 (by decide) dX12_sumHere_60 rfl ?_
          refine pm_getf (v := y112) hC 90 fl_X12_112 rfl rfl (by decide) rfl e113 dX12_sumHere_61 ?_
          refine pm_iconst (v := 2) hC dX12_sumHere_64 ?_
          refine pm_icmp_ne (tgt := 93) hC ⟨by exact ow_67_19 b114, by exact ow_67_20 b114⟩ ⟨by decide, by decide⟩ dX12_sumHere_65 (by decide) (fun c128 => ?_) (fun c128 => ?_)
          · skip
            replace hb104 := hb104.trans (if_pos c128)
            refine pm_aload_n hC 0 (by decide) dX12_sumHere_93 rfl ?_
            refine pm_callV (ci := 12) (as := []) (st := []) hC 90 fP_X12_nameHere lm_X12_262 li_X12_nameHere (by decide) (by decide) rfl rfl rfl (by decide) rfl rfl (Nat.le_of_ble_eq_true rfl) ⟨Nat.le_refl _, Or.inl rfl⟩ dX12_sumHere_94 ⟨rfl, hV92⟩ (fun r129 V130 hp131 => ?_)
            obtain ⟨y132, rfl, b133, rfl, hE134⟩ := hp131
            replace hb104 := hb104.trans (pf_call_eq hE134)
            change pm_J X 97 [(0, (3, 90)), (1, (0, x89)), (2, (0, x34))] [(0, y132)] 118 V91
            refine pm_istore_n (lv' := [(3, (0, y132)), (0, (3, 90)), (1, (0, x89)), (2, (0, x34))]) hC dX12_sumHere_97 (by decide) rfl ?_
            refine pm_iload_n hC 0 dX12_sumHere_98 rfl ?_
            refine pm_iconst (v := (-1)) hC dX12_sumHere_99 ?_
            refine pm_icmp_ne (tgt := 105) hC ⟨by exact ow_67_21 b133, by exact ow_67_22 b133⟩ ⟨by decide, by decide⟩ dX12_sumHere_100 (by decide) (fun c135 => ?_) (fun c135 => ?_)
            · skip
              replace hb104 := hb104.trans (if_pos c135)
              refine pm_aload_n hC 1 (by decide) dX12_sumHere_105 rfl ?_
              refine pm_iconst (v := 1) hC dX12_sumHere_106 ?_
              refine pm_iload_n hC 0 dX12_sumHere_107 rfl ?_
              have q139 : 0 ≤ V91 90 33 ∧ V91 90 33 ≤ 599 := by (have e : V91 90 33 = y62 := e95); rw [e]; exact ⟨by exact ow_67_23 b64, by exact ow_67_24 hmp0 e95 hx100 e116 b117 e119 b120⟩
              refine pm_callV (ci := 12) (as := [(0, 1), (0, y132)]) (st := []) hC 90 (fP_X12_lays 1 y132 ⟨by decide, by decide⟩ ⟨by exact ow_67_25 b133 c135, by exact ow_67_26 b133⟩) lm_X12_248 li_X12_lays (by decide) (by decide) rfl rfl rfl (by decide) rfl rfl (Nat.le_of_ble_eq_true rfl) ⟨Nat.le_refl _, Or.inl rfl⟩ dX12_sumHere_108 ⟨rfl, hV92, q139⟩ (fun r136 V137 hp138 => ?_)
              obtain ⟨rfl, hV140, hF141, hxp142, hE143⟩ := hp138
              replace hb104 := hb104.trans (pf_call_eq hE143)
              change pm_J X 111 [(3, (0, y132)), (0, (3, 90)), (1, (0, x89)), (2, (0, x34))] [] 118 V137
              have hF144 := pm_fs.tr hF93 hF141 (by decide) (by decide)
              have e145 : V137 90 1 = y7 := by rw [hF141.2 1 (by decide)]; exact e94
              have e146 : V137 90 2 = y109 := by rw [hF141.2 2 (by decide)]; exact e110
              have e147 : V137 90 3 = y112 := by rw [hF141.2 3 (by decide)]; exact e113
              have e148 : V137 90 4 = y115 := by rw [hF141.2 4 (by decide)]; exact e116
              have e149 : V137 90 39 = y118 := by rw [hF141.2 39 (by decide)]; exact e119
              have hp150 : pm_az V137 := (pm_az.fr hp96 (hF141.2 1 (by decide)) (hF141.2 2 (by decide)))
              have hp151 : pm_tk V137 := (pm_tk.fr hp97 (hF141.2 2 (by decide)) (hF141.2 3 (by decide)) (hF141.2 4 (by decide)))
              obtain ⟨y152, e153⟩ : ∃ y, V137 90 33 = y := ⟨_, rfl⟩
              have b154 := hV140.get 90 33 (lo := 0) (hi := 600) (by decide) (by decide) rfl
              rw [e153] at b154
              replace hb104 := hb104.trans (pf_let_eq e153)
              have hS := pm_su_lay hS hE143 (Or.inr ⟨rfl, by exact ow_67_25 b133 c135, by exact ow_67_27 b133⟩)
              refine pm_aload_n hC 1 (by decide) dX12_sumHere_111 rfl ?_
              refine pm_callV (ci := 12) (as := []) (st := []) hC 90 fP_X12_leads lm_X12_148 li_X12_leads (by decide) (by decide) rfl rfl rfl (by decide) rfl rfl (Nat.le_of_ble_eq_true rfl) ⟨Nat.le_refl _, Or.inl rfl⟩ dX12_sumHere_112 ⟨rfl, hV140, hp150⟩ (fun r155 V156 hp157 => ?_)
              obtain ⟨rfl, hV158, hF159, hg160, hE161⟩ := hp157
              replace hb104 := hb104.trans (pf_call_eq hE161)
              change pm_J X 115 [(3, (0, y132)), (0, (3, 90)), (1, (0, x89)), (2, (0, x34))] [] 118 V156
              have hF162 := pm_fs.tr hF144 hF159 (by decide) (by decide)
              have e163 : V156 90 1 = y7 := by rw [hF159.2 1 (by decide)]; exact e145
              have e164 : V156 90 39 = y118 := by rw [hF159.2 39 (by decide)]; exact e149
              have e165 : V156 90 33 = y152 := by rw [hF159.2 33 (by decide)]; exact e153
              obtain ⟨y166, e167⟩ : ∃ y, V156 90 2 = y := ⟨_, rfl⟩
              have b168 := hV158.get 90 2 (lo := 0) (hi := 500) (by decide) (by decide) rfl
              rw [e167] at b168
              replace hb104 := hb104.trans (pf_let_eq e167)
              obtain ⟨y169, e170⟩ : ∃ y, V156 90 3 = y := ⟨_, rfl⟩
              have b171 := hV158.get 90 3 (lo := 0) (hi := 4) (by decide) (by decide) rfl
              rw [e170] at b171
              replace hb104 := hb104.trans (pf_let_eq e170)
              obtain ⟨y172, e173⟩ : ∃ y, V156 90 4 = y := ⟨_, rfl⟩
              have b174 := hV158.get 90 4 (lo := 0) (hi := 500) (by decide) (by decide) rfl
              rw [e173] at b174
              replace hb104 := hb104.trans (pf_let_eq e173)
              have hpr175 := r_leads_pr hV140 hp150 hE161
              have htk176 : pm_tk V156 := hpr175.2.2.2.1
              have hS := hS.fr (hF159.1 107 (by decide) (by decide)) (hF159.1 109 (by decide) (by decide)) (hF159.2 33 (by decide)) (hF159.2 39 (by decide))
              obtain ⟨B189, hB190, hb104⟩ := pf_loop hb104
              have L192 : ∀ (N194 : Nat) (x177 : Int) (V179 : pm_M), (0 ≤ x177 ∧ x177 ≤ 8) → pm_oq pm_qP V179 → pm_fs [107, 109] [2, 3, 4, 5, 33, 37, 39] V0 V179 → V179 90 1 = y7 → pm_az V179 → pm_tk V179 → (V0 90 2 ≤ V179 90 2) → (pm_SX V179 x177 H0 L0 1) → (V179 90 33 + V179 90 39 + V0 90 4 ≤ V179 90 4 + V0 90 33) → (5 * (500 - V179 90 2) + V179 90 3 + 1 ≤ 5 * (500 - V36 90 2) + V36 90 3 ∧ V179 90 3 ≤ 5 * (V179 90 2 - V0 90 2)) → B102 (x89, V91) = pf_val (.inr (.inr ((0 : Int), V0))) B189 (x177, V179) → (Int.toNat (5 * (500 - V179 90 2) + V179 90 3)) = N194 → pm_J X 115 [(0, (3, 90)), (1, (0, x177)), (2, (0, x34)), (3, (0, y132))] [] 118 V179 := by
                intro N194
                induction N194 using Nat.strongRecOn with
                | _ N194 ih195 =>
                intro x177 V179 b178 hV180 hF181 e182 hp183 hp184 hm185 hx186 hx187 hx188 hb104 hm193
                have hb191 := congrFun hB190 (x177, V179)
                obtain ⟨y196, e197⟩ : ∃ y, V179 90 2 = y := ⟨_, rfl⟩
                have b198 := hV180.get 90 2 (lo := 0) (hi := 500) (by decide) (by decide) rfl
                rw [e197] at b198
                replace hb191 := hb191.trans (pf_let_eq e197)
                obtain ⟨y199, e200⟩ : ∃ y, V179 90 3 = y := ⟨_, rfl⟩
                have b201 := hV180.get 90 3 (lo := 0) (hi := 4) (by decide) (by decide) rfl
                rw [e200] at b201
                replace hb191 := hb191.trans (pf_let_eq e200)
                obtain ⟨y202, e203⟩ : ∃ y, V179 90 4 = y := ⟨_, rfl⟩
                have b204 := hV180.get 90 4 (lo := 0) (hi := 500) (by decide) (by decide) rfl
                rw [e203] at b204
                replace hb191 := hb191.trans (pf_let_eq e203)
                obtain ⟨y205, e206⟩ : ∃ y, V179 90 33 = y := ⟨_, rfl⟩
                have b207 := hV180.get 90 33 (lo := 0) (hi := 600) (by decide) (by decide) rfl
                rw [e206] at b207
                replace hb191 := hb191.trans (pf_let_eq e206)
                obtain ⟨y208, e209⟩ : ∃ y, V179 90 39 = y := ⟨_, rfl⟩
                have b210 := hV180.get 90 39 (lo := 0) (hi := 600) (by decide) (by decide) rfl
                rw [e209] at b210
                replace hb191 := hb191.trans (pf_let_eq e209)
                have hS := hx186
                have hLn := hx187
                have htk := hp184
                unfold pm_tk at htk
                refine pm_aload_n hC 0 (by decide) dX12_sumHere_115 rfl ?_
                refine pm_bipush (v := 41) hC dX12_sumHere_116 (by decide) ?_
                refine pm_callV (ci := 12) (as := [(0, 41)]) (st := []) hC 90 (fP_X12_isSign 41 ⟨by decide, by decide⟩) lm_X12_145 li_X12_isSign (by decide) (by decide) rfl rfl rfl (by decide) rfl rfl (Nat.le_of_ble_eq_true rfl) ⟨Nat.le_refl _, Or.inl rfl⟩ dX12_sumHere_118 ⟨rfl, hV180⟩ (fun r211 V212 hp213 => ?_)
                obtain ⟨y214, rfl, b215, rfl, hE216⟩ := hp213
                replace hb191 := hb191.trans (pf_call_eq hE216)
                change pm_J X 121 [(0, (3, 90)), (1, (0, x177)), (2, (0, x34)), (3, (0, y132))] [(0, y214)] 118 V179
                refine pm_if_eq (tgt := 153) hC ⟨by exact ow_67_17 b215, by exact ow_67_18 b215⟩ dX12_sumHere_121 (by decide) (fun c217 => ?_) (fun c217 => ?_)
                · skip
                  replace hb191 := hb191.trans (if_pos c217)
                  refine pm_aload_n hC 0 (by decide) dX12_sumHere_153 rfl ?_
                  refine pm_bipush (v := 43) hC dX12_sumHere_154 (by decide) ?_
                  refine pm_callV (ci := 12) (as := [(0, 43)]) (st := []) hC 90 (fP_X12_isSign 43 ⟨by decide, by decide⟩) lm_X12_145 li_X12_isSign (by decide) (by decide) rfl rfl rfl (by decide) rfl rfl (Nat.le_of_ble_eq_true rfl) ⟨Nat.le_refl _, Or.inl rfl⟩ dX12_sumHere_156 ⟨rfl, hV180⟩ (fun r218 V219 hp220 => ?_)
                  obtain ⟨y221, rfl, b222, rfl, hE223⟩ := hp220
                  replace hb191 := hb191.trans (pf_call_eq hE223)
                  change pm_J X 159 [(0, (3, 90)), (1, (0, x177)), (2, (0, x34)), (3, (0, y132))] [(0, y221)] 118 V179
                  refine pm_if_eq (tgt := 166) hC ⟨by exact ow_67_17 b222, by exact ow_67_18 b222⟩ dX12_sumHere_159 (by decide) (fun c224 => ?_) (fun c224 => ?_)
                  · skip
                    replace hb191 := hb191.trans (if_pos c224)
                    refine pm_aload_n hC 0 (by decide) dX12_sumHere_166 rfl ?_
                    refine pm_bipush (v := 45) hC dX12_sumHere_167 (by decide) ?_
                    refine pm_callV (ci := 12) (as := [(0, 45)]) (st := []) hC 90 (fP_X12_isSign 45 ⟨by decide, by decide⟩) lm_X12_145 li_X12_isSign (by decide) (by decide) rfl rfl rfl (by decide) rfl rfl (Nat.le_of_ble_eq_true rfl) ⟨Nat.le_refl _, Or.inl rfl⟩ dX12_sumHere_169 ⟨rfl, hV180⟩ (fun r225 V226 hp227 => ?_)
                    obtain ⟨y228, rfl, b229, rfl, hE230⟩ := hp227
                    replace hb191 := hb191.trans (pf_call_eq hE230)
                    change pm_J X 172 [(0, (3, 90)), (1, (0, x177)), (2, (0, x34)), (3, (0, y132))] [(0, y228)] 118 V179
                    refine pm_if_eq (tgt := 179) hC ⟨by exact ow_67_17 b229, by exact ow_67_18 b229⟩ dX12_sumHere_172 (by decide) (fun c231 => ?_) (fun c231 => ?_)
                    · skip
                      replace hb191 := hb191.trans (if_pos c231)
                      refine pm_aload_n hC 0 (by decide) dX12_sumHere_179 rfl ?_
                      refine pm_bipush (v := 42) hC dX12_sumHere_180 (by decide) ?_
                      refine pm_callV (ci := 12) (as := [(0, 42)]) (st := []) hC 90 (fP_X12_isSign 42 ⟨by decide, by decide⟩) lm_X12_145 li_X12_isSign (by decide) (by decide) rfl rfl rfl (by decide) rfl rfl (Nat.le_of_ble_eq_true rfl) ⟨Nat.le_refl _, Or.inl rfl⟩ dX12_sumHere_182 ⟨rfl, hV180⟩ (fun r232 V233 hp234 => ?_)
                      obtain ⟨y235, rfl, b236, rfl, hE237⟩ := hp234
                      replace hb191 := hb191.trans (pf_call_eq hE237)
                      change pm_J X 185 [(0, (3, 90)), (1, (0, x177)), (2, (0, x34)), (3, (0, y132))] [(0, y235)] 118 V179
                      refine pm_if_eq (tgt := 192) hC ⟨by exact ow_67_17 b236, by exact ow_67_18 b236⟩ dX12_sumHere_185 (by decide) (fun c238 => ?_) (fun c238 => ?_)
                      · skip
                        replace hb191 := hb191.trans (if_pos c238)
                        refine pm_iconst (v := (-1)) hC dX12_sumHere_192 ?_
                        refine pm_istore_n (lv' := [(3, (0, (-1))), (0, (3, 90)), (1, (0, x177)), (2, (0, x34))]) hC dX12_sumHere_193 (by decide) rfl ?_
                        refine pm_iload_n hC 0 dX12_sumHere_194 rfl ?_
                        refine pm_iconst (v := (-1)) hC dX12_sumHere_195 ?_
                        refine pm_icmp_eq (tgt := 203) hC ⟨by decide, by decide⟩ ⟨by decide, by decide⟩ dX12_sumHere_196 (by decide) (fun c239 => ?_) (fun c239 => ?_)
                        · skip
                          refine pm_iconst (v := 0) hC dX12_sumHere_203 ?_
                          refine pm_istore_n (lv' := [(2, (0, 0)), (3, (0, (-1))), (0, (3, 90)), (1, (0, x177))]) hC dX12_sumHere_204 (by decide) rfl ?_
                          refine pm_iload_n hC 0 dX12_sumHere_205 rfl ?_
                          refine pm_if_ne (tgt := 212) hC ⟨by decide, by decide⟩ dX12_sumHere_206 (by decide) (fun c240 => ?_) (fun c240 => ?_)
                          · skip
                            exfalso; exact ow_67_28 c240
                          · skip
                            refine pm_goto (tgt := 9) hC dX12_sumHere_209 (by decide) ?_
                            replace hb104 := hb104.trans (pf_val_inr hb191)
                            replace hb48 := hb48.trans (pf_val_inr hb104)
                            refine pm_lvsub [2, 3, 0] (lv' := [(0, (3, 90)), (1, (0, x177)), (2, (0, 0))]) rfl ?_
                            exact ih52 _ (by (exact ow_67_29 b35 hm50 hx188 e197 b198 e200 b201)) x177 0 V179 ⟨by exact ow_67_30 b178, by exact ow_67_31 b178⟩ ⟨by decide, by decide⟩ hV180 hF181 e182 hp183 hp184 (by (have e : V179 90 2 = y196 := e197); rw [e]; exact ow_67_32 hx188 e197 e200 b201) (hS.cast rfl (by exact ow_67_33)) (by rw [(show V179 90 33 = y205 from e206), (show V179 90 39 = y208 from e209), (show V179 90 4 = y202 from e203)]; exact ow_67_34 hx187 e203 e206 e209) (by rw [(show V179 90 2 = y196 from e197), (show V179 90 3 = y199 from e200)]; exact ow_67_35 hx188 e197 e200) (hT.trans (pf_val_inl hb48)) rfl
                        · skip
                          exfalso; exact ow_67_36 c239
                      · skip
                        replace hb191 := hb191.trans (if_neg c238)
                        refine pm_iconst (v := 4) hC dX12_sumHere_188 ?_
                        refine pm_goto (tgt := 193) hC dX12_sumHere_189 (by decide) ?_
                        refine pm_istore_n (lv' := [(3, (0, 4)), (0, (3, 90)), (1, (0, x177)), (2, (0, x34))]) hC dX12_sumHere_193 (by decide) rfl ?_
                        refine pm_iload_n hC 0 dX12_sumHere_194 rfl ?_
                        refine pm_iconst (v := (-1)) hC dX12_sumHere_195 ?_
                        refine pm_icmp_eq (tgt := 203) hC ⟨by decide, by decide⟩ ⟨by decide, by decide⟩ dX12_sumHere_196 (by decide) (fun c241 => ?_) (fun c241 => ?_)
                        · skip
                          exfalso; exact ow_67_37 c241
                        · skip
                          refine pm_iconst (v := 1) hC dX12_sumHere_199 ?_
                          refine pm_goto (tgt := 204) hC dX12_sumHere_200 (by decide) ?_
                          refine pm_istore_n (lv' := [(2, (0, 1)), (3, (0, 4)), (0, (3, 90)), (1, (0, x177))]) hC dX12_sumHere_204 (by decide) rfl ?_
                          refine pm_iload_n hC 0 dX12_sumHere_205 rfl ?_
                          refine pm_if_ne (tgt := 212) hC ⟨by decide, by decide⟩ dX12_sumHere_206 (by decide) (fun c242 => ?_) (fun c242 => ?_)
                          · skip
                            refine pm_aload_n hC 2 (by decide) dX12_sumHere_212 rfl ?_
                            refine pm_iload_n hC 1 dX12_sumHere_213 rfl ?_
                            refine pm_callS (as := [(0, 4)]) (st := [(3, 90)]) hC (fP_X12_rank 4 ⟨by decide, by decide⟩) lm_X12_244 ls_X12_rank (by decide) (by decide) rfl rfl (Nat.le_of_ble_eq_true rfl) ⟨Nat.le_refl _, Or.inl rfl⟩ dX12_sumHere_214 ⟨rfl, hV180⟩ (fun r243 V244 hp245 => ?_)
                            obtain ⟨y246, rfl, b247, rfl, hE248⟩ := hp245
                            replace hb191 := hb191.trans (pf_call_eq hE248)
                            change pm_J X 217 [(2, (0, 1)), (3, (0, 4)), (0, (3, 90)), (1, (0, x177))] [(0, y246), (3, 90)] 118 V179
                            refine pm_callV (ci := 12) (as := [(0, y246)]) (st := []) hC 90 (fP_X12_empties y246 ⟨by exact ow_67_38 b247, by exact ow_67_39 b247⟩) lm_X12_265 li_X12_empties (by decide) (by decide) rfl rfl rfl (by decide) rfl rfl (Nat.le_of_ble_eq_true rfl) ⟨Nat.le_refl _, Or.inl rfl⟩ dX12_sumHere_217 ⟨rfl, hV180, (show V179 90 33 + V179 90 39 ≤ 600 by exact ow_67_6 hmp0 hx187 e203 b204)⟩ (fun r249 V250 hp251 => ?_)
                            obtain ⟨rfl, hV252, hF253, hE254⟩ := hp251
                            replace hb191 := hb191.trans (pf_call_eq hE254)
                            change pm_J X 220 [(2, (0, 1)), (3, (0, 4)), (0, (3, 90)), (1, (0, x177))] [] 118 V250
                            have hF255 := pm_fs.tr hF181 hF253 (by decide) (by decide)
                            have e256 : V250 90 1 = y7 := by rw [hF253.2 1 (by decide)]; exact e182
                            have e257 : V250 90 2 = y196 := by rw [hF253.2 2 (by decide)]; exact e197
                            have e258 : V250 90 3 = y199 := by rw [hF253.2 3 (by decide)]; exact e200
                            have e259 : V250 90 4 = y202 := by rw [hF253.2 4 (by decide)]; exact e203
                            have hp260 : pm_az V250 := (pm_az.fr hp183 (hF253.2 1 (by decide)) (hF253.2 2 (by decide)))
                            have hp261 : pm_tk V250 := (pm_tk.fr hp184 (hF253.2 2 (by decide)) (hF253.2 3 (by decide)) (hF253.2 4 (by decide)))
                            obtain ⟨hS, hLe, hTp, hE1, hE2⟩ := pm_sa_empt hS hE254
                            have hPo := hS.pos
                            obtain ⟨y262, e263⟩ : ∃ y, V250 90 33 = y := ⟨_, rfl⟩
                            have b264 := hV252.get 90 33 (lo := 0) (hi := 600) (by decide) (by decide) rfl
                            rw [e263] at b264
                            replace hb191 := hb191.trans (pf_let_eq e263)
                            obtain ⟨y265, e266⟩ : ∃ y, V250 90 39 = y := ⟨_, rfl⟩
                            have b267 := hV252.get 90 39 (lo := 0) (hi := 600) (by decide) (by decide) rfl
                            rw [e266] at b267
                            replace hb191 := hb191.trans (pf_let_eq e266)
                            clear hE1 hE2
                            refine pm_aload_n hC 2 (by decide) dX12_sumHere_220 rfl ?_
                            have e268 : V250 90 38 = 109 := hV252.one 90 38 (by decide) (by decide) rfl
                            refine pm_getf (v := 109) hC 90 fl_X12_67 rfl rfl (by decide) rfl e268 dX12_sumHere_221 ?_
                            refine pm_aload_n hC 2 (by decide) dX12_sumHere_224 rfl ?_
                            refine pm_getf (v := y265) hC 90 fl_X12_241 rfl rfl (by decide) rfl e266 dX12_sumHere_225 ?_
                            refine pm_iload_n hC 1 dX12_sumHere_228 rfl ?_
                            refine pm_iastore (len := 600) hC 109 rfl rfl (by decide) ⟨by exact ow_67_23 b267, by exact ow_67_40 hmp0 hx187 e203 b204 hLe e263 b264 e266⟩ (by decide) dX12_sumHere_229 ?_
                            refine pm_aload_n hC 2 (by decide) dX12_sumHere_230 rfl ?_
                            refine pm_dup hC rfl dX12_sumHere_231 ?_
                            refine pm_getf (v := y265) hC 90 fl_X12_241 rfl rfl (by decide) rfl e266 dX12_sumHere_232 ?_
                            refine pm_iconst (v := 1) hC dX12_sumHere_235 ?_
                            refine pm_iadd hC dX12_sumHere_236 ?_
                            refine pm_putf hC 90 fl_X12_241 rfl rfl rfl (by decide) rfl trivial dX12_sumHere_237 ?_
                            refine pm_aload_n hC 2 (by decide) dX12_sumHere_240 rfl ?_
                            have hV271 := ((hV252.put 109 (y265 : Int).toNat (x := 4) (lo := (-1)) (hi := 7) rfl ⟨by decide, by decide⟩).put 90 39 (x := (y265 + 1)) (lo := 0) (hi := 600) rfl ⟨by exact ow_67_41 b267, by exact ow_67_42 hmp0 hx187 e203 b204 hLe e263 b264 e266⟩)
                            have hF272 := ((hF255.up 109 (y265 : Int).toNat 4 (by decide) rfl).upf 39 (y265 + 1) rfl)
                            obtain ⟨V269, hv270⟩ : ∃ V, V = (pm_up (pm_up V250 109 (y265 : Int).toNat 4) 90 39 (y265 + 1)) := ⟨_, rfl⟩
                            rw [← hv270] at hV271 hF272
                            rw [← hv270]
                            replace hb191 := hb191.trans (pf_let_eq hv270.symm)
                            have e273 : V269 90 1 = y7 := by rw [hv270]; exact e256
                            have e274 : V269 90 2 = y196 := by rw [hv270]; exact e257
                            have e275 : V269 90 3 = y199 := by rw [hv270]; exact e258
                            have e276 : V269 90 4 = y202 := by rw [hv270]; exact e259
                            have e277 : V269 90 33 = y262 := by rw [hv270]; exact e263
                            have e278 : V269 90 38 = 109 := by rw [hv270]; exact e268
                            have e279 : V269 90 39 = (y265 + 1) := by rw [hv270]; rfl
                            have hp280 : pm_az V269 := by rw [hv270]; exact (pm_az.fr hp260 rfl rfl)
                            have hp281 : pm_tk V269 := by rw [hv270]; exact (pm_tk.fr hp261 rfl rfl rfl)
                            have hS : pm_SX V269 x177 H0 L0 0 := by rw [hv270, ← e266]; exact (pm_push hS (Or.inr ⟨by decide, by decide⟩)).cast (by rw [if_neg (by decide)]; exact ow_67_43) (by rw [if_neg (by decide)]; rfl)
                            refine pm_callV (ci := 12) (as := []) (st := []) hC 90 fP_X12_leads lm_X12_148 li_X12_leads (by decide) (by decide) rfl rfl rfl (by decide) rfl rfl (Nat.le_of_ble_eq_true rfl) ⟨Nat.le_refl _, Or.inl rfl⟩ dX12_sumHere_241 ⟨rfl, hV271, hp280⟩ (fun r282 V283 hp284 => ?_)
                            obtain ⟨rfl, hV285, hF286, hg287, hE288⟩ := hp284
                            replace hb191 := hb191.trans (pf_call_eq hE288)
                            change pm_J X 244 [(2, (0, 1)), (3, (0, 4)), (0, (3, 90)), (1, (0, x177))] [] 118 V283
                            have hF289 := pm_fs.tr hF272 hF286 (by decide) (by decide)
                            have e290 : V283 90 1 = y7 := by rw [hF286.2 1 (by decide)]; exact e273
                            have e291 : V283 90 33 = y262 := by rw [hF286.2 33 (by decide)]; exact e277
                            have e292 : V283 90 38 = 109 := by rw [hF286.2 38 (by decide)]; exact e278
                            have e293 : V283 90 39 = (y265 + 1) := by rw [hF286.2 39 (by decide)]; exact e279
                            obtain ⟨y294, e295⟩ : ∃ y, V283 90 2 = y := ⟨_, rfl⟩
                            have b296 := hV285.get 90 2 (lo := 0) (hi := 500) (by decide) (by decide) rfl
                            rw [e295] at b296
                            replace hb191 := hb191.trans (pf_let_eq e295)
                            obtain ⟨y297, e298⟩ : ∃ y, V283 90 3 = y := ⟨_, rfl⟩
                            have b299 := hV285.get 90 3 (lo := 0) (hi := 4) (by decide) (by decide) rfl
                            rw [e298] at b299
                            replace hb191 := hb191.trans (pf_let_eq e298)
                            obtain ⟨y300, e301⟩ : ∃ y, V283 90 4 = y := ⟨_, rfl⟩
                            have b302 := hV285.get 90 4 (lo := 0) (hi := 500) (by decide) (by decide) rfl
                            rw [e301] at b302
                            replace hb191 := hb191.trans (pf_let_eq e301)
                            have hpr303 := r_leads_pr hV271 hp280 hE288
                            have htk304 : pm_tk V283 := hpr303.2.2.2.1
                            have hS := hS.fr (hF286.1 107 (by decide) (by decide)) (hF286.1 109 (by decide) (by decide)) (hF286.2 33 (by decide)) (hF286.2 39 (by decide))
                            refine pm_goto (tgt := 9) hC dX12_sumHere_244 (by decide) ?_
                            replace hb104 := hb104.trans (pf_val_inr hb191)
                            replace hb48 := hb48.trans (pf_val_inr hb104)
                            refine pm_lvsub [2, 3, 0] (lv' := [(0, (3, 90)), (1, (0, x177)), (2, (0, 1))]) rfl ?_
                            exact ih52 _ (by (exact ow_67_44 b35 hm50 c68 hx188 e197 b236 c238 e274 e295 b296 e298 b299 hpr303)) x177 1 V283 ⟨by exact ow_67_30 b178, by exact ow_67_31 b178⟩ ⟨by decide, by decide⟩ hV285 hF289 e290 hg287 htk304 (by (have e : V283 90 2 = y294 := e295); rw [e]; exact ow_67_45 hx188 e197 e200 b201 e274 e295 hpr303) (hS.cast rfl (by exact ow_67_46)) (by rw [(show V283 90 33 = y262 from e291), (show V283 90 39 = (y265 + 1) from e293), (show V283 90 4 = y300 from e301)]; (exact ow_67_47 hx187 e197 htk b236 c238 hLe e263 e266 e274 e301 hpr303)) (by rw [(show V283 90 2 = y294 from e295), (show V283 90 3 = y297 from e298)]; exact ow_67_48) (hT.trans (pf_val_inl hb48)) rfl
                          · skip
                            exfalso; exact ow_67_49 c242
                    · skip
                      replace hb191 := hb191.trans (if_neg c231)
                      refine pm_iconst (v := 3) hC dX12_sumHere_175 ?_
                      refine pm_goto (tgt := 193) hC dX12_sumHere_176 (by decide) ?_
                      refine pm_istore_n (lv' := [(3, (0, 3)), (0, (3, 90)), (1, (0, x177)), (2, (0, x34))]) hC dX12_sumHere_193 (by decide) rfl ?_
                      refine pm_iload_n hC 0 dX12_sumHere_194 rfl ?_
                      refine pm_iconst (v := (-1)) hC dX12_sumHere_195 ?_
                      refine pm_icmp_eq (tgt := 203) hC ⟨by decide, by decide⟩ ⟨by decide, by decide⟩ dX12_sumHere_196 (by decide) (fun c305 => ?_) (fun c305 => ?_)
                      · skip
                        exfalso; exact ow_67_50 c305
                      · skip
                        refine pm_iconst (v := 1) hC dX12_sumHere_199 ?_
                        refine pm_goto (tgt := 204) hC dX12_sumHere_200 (by decide) ?_
                        refine pm_istore_n (lv' := [(2, (0, 1)), (3, (0, 3)), (0, (3, 90)), (1, (0, x177))]) hC dX12_sumHere_204 (by decide) rfl ?_
                        refine pm_iload_n hC 0 dX12_sumHere_205 rfl ?_
                        refine pm_if_ne (tgt := 212) hC ⟨by decide, by decide⟩ dX12_sumHere_206 (by decide) (fun c306 => ?_) (fun c306 => ?_)
                        · skip
                          refine pm_aload_n hC 2 (by decide) dX12_sumHere_212 rfl ?_
                          refine pm_iload_n hC 1 dX12_sumHere_213 rfl ?_
                          refine pm_callS (as := [(0, 3)]) (st := [(3, 90)]) hC (fP_X12_rank 3 ⟨by decide, by decide⟩) lm_X12_244 ls_X12_rank (by decide) (by decide) rfl rfl (Nat.le_of_ble_eq_true rfl) ⟨Nat.le_refl _, Or.inl rfl⟩ dX12_sumHere_214 ⟨rfl, hV180⟩ (fun r307 V308 hp309 => ?_)
                          obtain ⟨y310, rfl, b311, rfl, hE312⟩ := hp309
                          replace hb191 := hb191.trans (pf_call_eq hE312)
                          change pm_J X 217 [(2, (0, 1)), (3, (0, 3)), (0, (3, 90)), (1, (0, x177))] [(0, y310), (3, 90)] 118 V179
                          refine pm_callV (ci := 12) (as := [(0, y310)]) (st := []) hC 90 (fP_X12_empties y310 ⟨by exact ow_67_38 b311, by exact ow_67_39 b311⟩) lm_X12_265 li_X12_empties (by decide) (by decide) rfl rfl rfl (by decide) rfl rfl (Nat.le_of_ble_eq_true rfl) ⟨Nat.le_refl _, Or.inl rfl⟩ dX12_sumHere_217 ⟨rfl, hV180, (show V179 90 33 + V179 90 39 ≤ 600 by exact ow_67_6 hmp0 hx187 e203 b204)⟩ (fun r313 V314 hp315 => ?_)
                          obtain ⟨rfl, hV316, hF317, hE318⟩ := hp315
                          replace hb191 := hb191.trans (pf_call_eq hE318)
                          change pm_J X 220 [(2, (0, 1)), (3, (0, 3)), (0, (3, 90)), (1, (0, x177))] [] 118 V314
                          have hF319 := pm_fs.tr hF181 hF317 (by decide) (by decide)
                          have e320 : V314 90 1 = y7 := by rw [hF317.2 1 (by decide)]; exact e182
                          have e321 : V314 90 2 = y196 := by rw [hF317.2 2 (by decide)]; exact e197
                          have e322 : V314 90 3 = y199 := by rw [hF317.2 3 (by decide)]; exact e200
                          have e323 : V314 90 4 = y202 := by rw [hF317.2 4 (by decide)]; exact e203
                          have hp324 : pm_az V314 := (pm_az.fr hp183 (hF317.2 1 (by decide)) (hF317.2 2 (by decide)))
                          have hp325 : pm_tk V314 := (pm_tk.fr hp184 (hF317.2 2 (by decide)) (hF317.2 3 (by decide)) (hF317.2 4 (by decide)))
                          obtain ⟨hS, hLe, hTp, hE1, hE2⟩ := pm_sa_empt hS hE318
                          have hPo := hS.pos
                          obtain ⟨y326, e327⟩ : ∃ y, V314 90 33 = y := ⟨_, rfl⟩
                          have b328 := hV316.get 90 33 (lo := 0) (hi := 600) (by decide) (by decide) rfl
                          rw [e327] at b328
                          replace hb191 := hb191.trans (pf_let_eq e327)
                          obtain ⟨y329, e330⟩ : ∃ y, V314 90 39 = y := ⟨_, rfl⟩
                          have b331 := hV316.get 90 39 (lo := 0) (hi := 600) (by decide) (by decide) rfl
                          rw [e330] at b331
                          replace hb191 := hb191.trans (pf_let_eq e330)
                          clear hE1 hE2
                          refine pm_aload_n hC 2 (by decide) dX12_sumHere_220 rfl ?_
                          have e332 : V314 90 38 = 109 := hV316.one 90 38 (by decide) (by decide) rfl
                          refine pm_getf (v := 109) hC 90 fl_X12_67 rfl rfl (by decide) rfl e332 dX12_sumHere_221 ?_
                          refine pm_aload_n hC 2 (by decide) dX12_sumHere_224 rfl ?_
                          refine pm_getf (v := y329) hC 90 fl_X12_241 rfl rfl (by decide) rfl e330 dX12_sumHere_225 ?_
                          refine pm_iload_n hC 1 dX12_sumHere_228 rfl ?_
                          refine pm_iastore (len := 600) hC 109 rfl rfl (by decide) ⟨by exact ow_67_23 b331, by exact ow_67_40 hmp0 hx187 e203 b204 hLe e327 b328 e330⟩ (by decide) dX12_sumHere_229 ?_
                          refine pm_aload_n hC 2 (by decide) dX12_sumHere_230 rfl ?_
                          refine pm_dup hC rfl dX12_sumHere_231 ?_
                          refine pm_getf (v := y329) hC 90 fl_X12_241 rfl rfl (by decide) rfl e330 dX12_sumHere_232 ?_
                          refine pm_iconst (v := 1) hC dX12_sumHere_235 ?_
                          refine pm_iadd hC dX12_sumHere_236 ?_
                          refine pm_putf hC 90 fl_X12_241 rfl rfl rfl (by decide) rfl trivial dX12_sumHere_237 ?_
                          refine pm_aload_n hC 2 (by decide) dX12_sumHere_240 rfl ?_
                          have hV335 := ((hV316.put 109 (y329 : Int).toNat (x := 3) (lo := (-1)) (hi := 7) rfl ⟨by decide, by decide⟩).put 90 39 (x := (y329 + 1)) (lo := 0) (hi := 600) rfl ⟨by exact ow_67_41 b331, by exact ow_67_42 hmp0 hx187 e203 b204 hLe e327 b328 e330⟩)
                          have hF336 := ((hF319.up 109 (y329 : Int).toNat 3 (by decide) rfl).upf 39 (y329 + 1) rfl)
                          obtain ⟨V333, hv334⟩ : ∃ V, V = (pm_up (pm_up V314 109 (y329 : Int).toNat 3) 90 39 (y329 + 1)) := ⟨_, rfl⟩
                          rw [← hv334] at hV335 hF336
                          rw [← hv334]
                          replace hb191 := hb191.trans (pf_let_eq hv334.symm)
                          have e337 : V333 90 1 = y7 := by rw [hv334]; exact e320
                          have e338 : V333 90 2 = y196 := by rw [hv334]; exact e321
                          have e339 : V333 90 3 = y199 := by rw [hv334]; exact e322
                          have e340 : V333 90 4 = y202 := by rw [hv334]; exact e323
                          have e341 : V333 90 33 = y326 := by rw [hv334]; exact e327
                          have e342 : V333 90 38 = 109 := by rw [hv334]; exact e332
                          have e343 : V333 90 39 = (y329 + 1) := by rw [hv334]; rfl
                          have hp344 : pm_az V333 := by rw [hv334]; exact (pm_az.fr hp324 rfl rfl)
                          have hp345 : pm_tk V333 := by rw [hv334]; exact (pm_tk.fr hp325 rfl rfl rfl)
                          have hS : pm_SX V333 x177 H0 L0 0 := by rw [hv334, ← e330]; exact (pm_push hS (Or.inr ⟨by decide, by decide⟩)).cast (by rw [if_neg (by decide)]; exact ow_67_43) (by rw [if_neg (by decide)]; rfl)
                          refine pm_callV (ci := 12) (as := []) (st := []) hC 90 fP_X12_leads lm_X12_148 li_X12_leads (by decide) (by decide) rfl rfl rfl (by decide) rfl rfl (Nat.le_of_ble_eq_true rfl) ⟨Nat.le_refl _, Or.inl rfl⟩ dX12_sumHere_241 ⟨rfl, hV335, hp344⟩ (fun r346 V347 hp348 => ?_)
                          obtain ⟨rfl, hV349, hF350, hg351, hE352⟩ := hp348
                          replace hb191 := hb191.trans (pf_call_eq hE352)
                          change pm_J X 244 [(2, (0, 1)), (3, (0, 3)), (0, (3, 90)), (1, (0, x177))] [] 118 V347
                          have hF353 := pm_fs.tr hF336 hF350 (by decide) (by decide)
                          have e354 : V347 90 1 = y7 := by rw [hF350.2 1 (by decide)]; exact e337
                          have e355 : V347 90 33 = y326 := by rw [hF350.2 33 (by decide)]; exact e341
                          have e356 : V347 90 38 = 109 := by rw [hF350.2 38 (by decide)]; exact e342
                          have e357 : V347 90 39 = (y329 + 1) := by rw [hF350.2 39 (by decide)]; exact e343
                          obtain ⟨y358, e359⟩ : ∃ y, V347 90 2 = y := ⟨_, rfl⟩
                          have b360 := hV349.get 90 2 (lo := 0) (hi := 500) (by decide) (by decide) rfl
                          rw [e359] at b360
                          replace hb191 := hb191.trans (pf_let_eq e359)
                          obtain ⟨y361, e362⟩ : ∃ y, V347 90 3 = y := ⟨_, rfl⟩
                          have b363 := hV349.get 90 3 (lo := 0) (hi := 4) (by decide) (by decide) rfl
                          rw [e362] at b363
                          replace hb191 := hb191.trans (pf_let_eq e362)
                          obtain ⟨y364, e365⟩ : ∃ y, V347 90 4 = y := ⟨_, rfl⟩
                          have b366 := hV349.get 90 4 (lo := 0) (hi := 500) (by decide) (by decide) rfl
                          rw [e365] at b366
                          replace hb191 := hb191.trans (pf_let_eq e365)
                          have hpr367 := r_leads_pr hV335 hp344 hE352
                          have htk368 : pm_tk V347 := hpr367.2.2.2.1
                          have hS := hS.fr (hF350.1 107 (by decide) (by decide)) (hF350.1 109 (by decide) (by decide)) (hF350.2 33 (by decide)) (hF350.2 39 (by decide))
                          refine pm_goto (tgt := 9) hC dX12_sumHere_244 (by decide) ?_
                          replace hb104 := hb104.trans (pf_val_inr hb191)
                          replace hb48 := hb48.trans (pf_val_inr hb104)
                          refine pm_lvsub [2, 3, 0] (lv' := [(0, (3, 90)), (1, (0, x177)), (2, (0, 1))]) rfl ?_
                          exact ih52 _ (by (exact ow_67_44 b35 hm50 c68 hx188 e197 b229 c231 e338 e359 b360 e362 b363 hpr367)) x177 1 V347 ⟨by exact ow_67_30 b178, by exact ow_67_31 b178⟩ ⟨by decide, by decide⟩ hV349 hF353 e354 hg351 htk368 (by (have e : V347 90 2 = y358 := e359); rw [e]; exact ow_67_45 hx188 e197 e200 b201 e338 e359 hpr367) (hS.cast rfl (by exact ow_67_46)) (by rw [(show V347 90 33 = y326 from e355), (show V347 90 39 = (y329 + 1) from e357), (show V347 90 4 = y364 from e365)]; (exact ow_67_47 hx187 e197 htk b229 c231 hLe e327 e330 e338 e365 hpr367)) (by rw [(show V347 90 2 = y358 from e359), (show V347 90 3 = y361 from e362)]; exact ow_67_48) (hT.trans (pf_val_inl hb48)) rfl
                        · skip
                          exfalso; exact ow_67_49 c306
                  · skip
                    replace hb191 := hb191.trans (if_neg c224)
                    refine pm_iconst (v := 2) hC dX12_sumHere_162 ?_
                    refine pm_goto (tgt := 193) hC dX12_sumHere_163 (by decide) ?_
                    refine pm_istore_n (lv' := [(3, (0, 2)), (0, (3, 90)), (1, (0, x177)), (2, (0, x34))]) hC dX12_sumHere_193 (by decide) rfl ?_
                    refine pm_iload_n hC 0 dX12_sumHere_194 rfl ?_
                    refine pm_iconst (v := (-1)) hC dX12_sumHere_195 ?_
                    refine pm_icmp_eq (tgt := 203) hC ⟨by decide, by decide⟩ ⟨by decide, by decide⟩ dX12_sumHere_196 (by decide) (fun c369 => ?_) (fun c369 => ?_)
                    · skip
                      exfalso; exact ow_67_51 c369
                    · skip
                      refine pm_iconst (v := 1) hC dX12_sumHere_199 ?_
                      refine pm_goto (tgt := 204) hC dX12_sumHere_200 (by decide) ?_
                      refine pm_istore_n (lv' := [(2, (0, 1)), (3, (0, 2)), (0, (3, 90)), (1, (0, x177))]) hC dX12_sumHere_204 (by decide) rfl ?_
                      refine pm_iload_n hC 0 dX12_sumHere_205 rfl ?_
                      refine pm_if_ne (tgt := 212) hC ⟨by decide, by decide⟩ dX12_sumHere_206 (by decide) (fun c370 => ?_) (fun c370 => ?_)
                      · skip
                        refine pm_aload_n hC 2 (by decide) dX12_sumHere_212 rfl ?_
                        refine pm_iload_n hC 1 dX12_sumHere_213 rfl ?_
                        refine pm_callS (as := [(0, 2)]) (st := [(3, 90)]) hC (fP_X12_rank 2 ⟨by decide, by decide⟩) lm_X12_244 ls_X12_rank (by decide) (by decide) rfl rfl (Nat.le_of_ble_eq_true rfl) ⟨Nat.le_refl _, Or.inl rfl⟩ dX12_sumHere_214 ⟨rfl, hV180⟩ (fun r371 V372 hp373 => ?_)
                        obtain ⟨y374, rfl, b375, rfl, hE376⟩ := hp373
                        replace hb191 := hb191.trans (pf_call_eq hE376)
                        change pm_J X 217 [(2, (0, 1)), (3, (0, 2)), (0, (3, 90)), (1, (0, x177))] [(0, y374), (3, 90)] 118 V179
                        refine pm_callV (ci := 12) (as := [(0, y374)]) (st := []) hC 90 (fP_X12_empties y374 ⟨by exact ow_67_38 b375, by exact ow_67_39 b375⟩) lm_X12_265 li_X12_empties (by decide) (by decide) rfl rfl rfl (by decide) rfl rfl (Nat.le_of_ble_eq_true rfl) ⟨Nat.le_refl _, Or.inl rfl⟩ dX12_sumHere_217 ⟨rfl, hV180, (show V179 90 33 + V179 90 39 ≤ 600 by exact ow_67_6 hmp0 hx187 e203 b204)⟩ (fun r377 V378 hp379 => ?_)
                        obtain ⟨rfl, hV380, hF381, hE382⟩ := hp379
                        replace hb191 := hb191.trans (pf_call_eq hE382)
                        change pm_J X 220 [(2, (0, 1)), (3, (0, 2)), (0, (3, 90)), (1, (0, x177))] [] 118 V378
                        have hF383 := pm_fs.tr hF181 hF381 (by decide) (by decide)
                        have e384 : V378 90 1 = y7 := by rw [hF381.2 1 (by decide)]; exact e182
                        have e385 : V378 90 2 = y196 := by rw [hF381.2 2 (by decide)]; exact e197
                        have e386 : V378 90 3 = y199 := by rw [hF381.2 3 (by decide)]; exact e200
                        have e387 : V378 90 4 = y202 := by rw [hF381.2 4 (by decide)]; exact e203
                        have hp388 : pm_az V378 := (pm_az.fr hp183 (hF381.2 1 (by decide)) (hF381.2 2 (by decide)))
                        have hp389 : pm_tk V378 := (pm_tk.fr hp184 (hF381.2 2 (by decide)) (hF381.2 3 (by decide)) (hF381.2 4 (by decide)))
                        obtain ⟨hS, hLe, hTp, hE1, hE2⟩ := pm_sa_empt hS hE382
                        have hPo := hS.pos
                        obtain ⟨y390, e391⟩ : ∃ y, V378 90 33 = y := ⟨_, rfl⟩
                        have b392 := hV380.get 90 33 (lo := 0) (hi := 600) (by decide) (by decide) rfl
                        rw [e391] at b392
                        replace hb191 := hb191.trans (pf_let_eq e391)
                        obtain ⟨y393, e394⟩ : ∃ y, V378 90 39 = y := ⟨_, rfl⟩
                        have b395 := hV380.get 90 39 (lo := 0) (hi := 600) (by decide) (by decide) rfl
                        rw [e394] at b395
                        replace hb191 := hb191.trans (pf_let_eq e394)
                        clear hE1 hE2
                        refine pm_aload_n hC 2 (by decide) dX12_sumHere_220 rfl ?_
                        have e396 : V378 90 38 = 109 := hV380.one 90 38 (by decide) (by decide) rfl
                        refine pm_getf (v := 109) hC 90 fl_X12_67 rfl rfl (by decide) rfl e396 dX12_sumHere_221 ?_
                        refine pm_aload_n hC 2 (by decide) dX12_sumHere_224 rfl ?_
                        refine pm_getf (v := y393) hC 90 fl_X12_241 rfl rfl (by decide) rfl e394 dX12_sumHere_225 ?_
                        refine pm_iload_n hC 1 dX12_sumHere_228 rfl ?_
                        refine pm_iastore (len := 600) hC 109 rfl rfl (by decide) ⟨by exact ow_67_23 b395, by exact ow_67_40 hmp0 hx187 e203 b204 hLe e391 b392 e394⟩ (by decide) dX12_sumHere_229 ?_
                        refine pm_aload_n hC 2 (by decide) dX12_sumHere_230 rfl ?_
                        refine pm_dup hC rfl dX12_sumHere_231 ?_
                        refine pm_getf (v := y393) hC 90 fl_X12_241 rfl rfl (by decide) rfl e394 dX12_sumHere_232 ?_
                        refine pm_iconst (v := 1) hC dX12_sumHere_235 ?_
                        refine pm_iadd hC dX12_sumHere_236 ?_
                        refine pm_putf hC 90 fl_X12_241 rfl rfl rfl (by decide) rfl trivial dX12_sumHere_237 ?_
                        refine pm_aload_n hC 2 (by decide) dX12_sumHere_240 rfl ?_
                        have hV399 := ((hV380.put 109 (y393 : Int).toNat (x := 2) (lo := (-1)) (hi := 7) rfl ⟨by decide, by decide⟩).put 90 39 (x := (y393 + 1)) (lo := 0) (hi := 600) rfl ⟨by exact ow_67_41 b395, by exact ow_67_42 hmp0 hx187 e203 b204 hLe e391 b392 e394⟩)
                        have hF400 := ((hF383.up 109 (y393 : Int).toNat 2 (by decide) rfl).upf 39 (y393 + 1) rfl)
                        obtain ⟨V397, hv398⟩ : ∃ V, V = (pm_up (pm_up V378 109 (y393 : Int).toNat 2) 90 39 (y393 + 1)) := ⟨_, rfl⟩
                        rw [← hv398] at hV399 hF400
                        rw [← hv398]
                        replace hb191 := hb191.trans (pf_let_eq hv398.symm)
                        have e401 : V397 90 1 = y7 := by rw [hv398]; exact e384
                        have e402 : V397 90 2 = y196 := by rw [hv398]; exact e385
                        have e403 : V397 90 3 = y199 := by rw [hv398]; exact e386
                        have e404 : V397 90 4 = y202 := by rw [hv398]; exact e387
                        have e405 : V397 90 33 = y390 := by rw [hv398]; exact e391
                        have e406 : V397 90 38 = 109 := by rw [hv398]; exact e396
                        have e407 : V397 90 39 = (y393 + 1) := by rw [hv398]; rfl
                        have hp408 : pm_az V397 := by rw [hv398]; exact (pm_az.fr hp388 rfl rfl)
                        have hp409 : pm_tk V397 := by rw [hv398]; exact (pm_tk.fr hp389 rfl rfl rfl)
                        have hS : pm_SX V397 x177 H0 L0 0 := by rw [hv398, ← e394]; exact (pm_push hS (Or.inr ⟨by decide, by decide⟩)).cast (by rw [if_neg (by decide)]; exact ow_67_43) (by rw [if_neg (by decide)]; rfl)
                        refine pm_callV (ci := 12) (as := []) (st := []) hC 90 fP_X12_leads lm_X12_148 li_X12_leads (by decide) (by decide) rfl rfl rfl (by decide) rfl rfl (Nat.le_of_ble_eq_true rfl) ⟨Nat.le_refl _, Or.inl rfl⟩ dX12_sumHere_241 ⟨rfl, hV399, hp408⟩ (fun r410 V411 hp412 => ?_)
                        obtain ⟨rfl, hV413, hF414, hg415, hE416⟩ := hp412
                        replace hb191 := hb191.trans (pf_call_eq hE416)
                        change pm_J X 244 [(2, (0, 1)), (3, (0, 2)), (0, (3, 90)), (1, (0, x177))] [] 118 V411
                        have hF417 := pm_fs.tr hF400 hF414 (by decide) (by decide)
                        have e418 : V411 90 1 = y7 := by rw [hF414.2 1 (by decide)]; exact e401
                        have e419 : V411 90 33 = y390 := by rw [hF414.2 33 (by decide)]; exact e405
                        have e420 : V411 90 38 = 109 := by rw [hF414.2 38 (by decide)]; exact e406
                        have e421 : V411 90 39 = (y393 + 1) := by rw [hF414.2 39 (by decide)]; exact e407
                        obtain ⟨y422, e423⟩ : ∃ y, V411 90 2 = y := ⟨_, rfl⟩
                        have b424 := hV413.get 90 2 (lo := 0) (hi := 500) (by decide) (by decide) rfl
                        rw [e423] at b424
                        replace hb191 := hb191.trans (pf_let_eq e423)
                        obtain ⟨y425, e426⟩ : ∃ y, V411 90 3 = y := ⟨_, rfl⟩
                        have b427 := hV413.get 90 3 (lo := 0) (hi := 4) (by decide) (by decide) rfl
                        rw [e426] at b427
                        replace hb191 := hb191.trans (pf_let_eq e426)
                        obtain ⟨y428, e429⟩ : ∃ y, V411 90 4 = y := ⟨_, rfl⟩
                        have b430 := hV413.get 90 4 (lo := 0) (hi := 500) (by decide) (by decide) rfl
                        rw [e429] at b430
                        replace hb191 := hb191.trans (pf_let_eq e429)
                        have hpr431 := r_leads_pr hV399 hp408 hE416
                        have htk432 : pm_tk V411 := hpr431.2.2.2.1
                        have hS := hS.fr (hF414.1 107 (by decide) (by decide)) (hF414.1 109 (by decide) (by decide)) (hF414.2 33 (by decide)) (hF414.2 39 (by decide))
                        refine pm_goto (tgt := 9) hC dX12_sumHere_244 (by decide) ?_
                        replace hb104 := hb104.trans (pf_val_inr hb191)
                        replace hb48 := hb48.trans (pf_val_inr hb104)
                        refine pm_lvsub [2, 3, 0] (lv' := [(0, (3, 90)), (1, (0, x177)), (2, (0, 1))]) rfl ?_
                        exact ih52 _ (by (exact ow_67_44 b35 hm50 c68 hx188 e197 b222 c224 e402 e423 b424 e426 b427 hpr431)) x177 1 V411 ⟨by exact ow_67_30 b178, by exact ow_67_31 b178⟩ ⟨by decide, by decide⟩ hV413 hF417 e418 hg415 htk432 (by (have e : V411 90 2 = y422 := e423); rw [e]; exact ow_67_45 hx188 e197 e200 b201 e402 e423 hpr431) (hS.cast rfl (by exact ow_67_46)) (by rw [(show V411 90 33 = y390 from e419), (show V411 90 39 = (y393 + 1) from e421), (show V411 90 4 = y428 from e429)]; (exact ow_67_47 hx187 e197 htk b222 c224 hLe e391 e394 e402 e429 hpr431)) (by rw [(show V411 90 2 = y422 from e423), (show V411 90 3 = y425 from e426)]; exact ow_67_48) (hT.trans (pf_val_inl hb48)) rfl
                      · skip
                        exfalso; exact ow_67_49 c370
                · skip
                  replace hb191 := hb191.trans (if_neg c217)
                  refine pm_iload_n hC 1 dX12_sumHere_124 rfl ?_
                  refine pm_if_le (tgt := 153) hC ⟨by exact ow_67_2 b178, by exact ow_67_3 b178⟩ dX12_sumHere_125 (by decide) (fun c433 => ?_) (fun c433 => ?_)
                  · skip
                    replace hb191 := hb191.trans (if_pos c433)
                    refine pm_aload_n hC 0 (by decide) dX12_sumHere_153 rfl ?_
                    refine pm_bipush (v := 43) hC dX12_sumHere_154 (by decide) ?_
                    refine pm_callV (ci := 12) (as := [(0, 43)]) (st := []) hC 90 (fP_X12_isSign 43 ⟨by decide, by decide⟩) lm_X12_145 li_X12_isSign (by decide) (by decide) rfl rfl rfl (by decide) rfl rfl (Nat.le_of_ble_eq_true rfl) ⟨Nat.le_refl _, Or.inl rfl⟩ dX12_sumHere_156 ⟨rfl, hV180⟩ (fun r434 V435 hp436 => ?_)
                    obtain ⟨y437, rfl, b438, rfl, hE439⟩ := hp436
                    replace hb191 := hb191.trans (pf_call_eq hE439)
                    change pm_J X 159 [(0, (3, 90)), (1, (0, x177)), (2, (0, x34)), (3, (0, y132))] [(0, y437)] 118 V179
                    refine pm_if_eq (tgt := 166) hC ⟨by exact ow_67_17 b438, by exact ow_67_18 b438⟩ dX12_sumHere_159 (by decide) (fun c440 => ?_) (fun c440 => ?_)
                    · skip
                      replace hb191 := hb191.trans (if_pos c440)
                      refine pm_aload_n hC 0 (by decide) dX12_sumHere_166 rfl ?_
                      refine pm_bipush (v := 45) hC dX12_sumHere_167 (by decide) ?_
                      refine pm_callV (ci := 12) (as := [(0, 45)]) (st := []) hC 90 (fP_X12_isSign 45 ⟨by decide, by decide⟩) lm_X12_145 li_X12_isSign (by decide) (by decide) rfl rfl rfl (by decide) rfl rfl (Nat.le_of_ble_eq_true rfl) ⟨Nat.le_refl _, Or.inl rfl⟩ dX12_sumHere_169 ⟨rfl, hV180⟩ (fun r441 V442 hp443 => ?_)
                      obtain ⟨y444, rfl, b445, rfl, hE446⟩ := hp443
                      replace hb191 := hb191.trans (pf_call_eq hE446)
                      change pm_J X 172 [(0, (3, 90)), (1, (0, x177)), (2, (0, x34)), (3, (0, y132))] [(0, y444)] 118 V179
                      refine pm_if_eq (tgt := 179) hC ⟨by exact ow_67_17 b445, by exact ow_67_18 b445⟩ dX12_sumHere_172 (by decide) (fun c447 => ?_) (fun c447 => ?_)
                      · skip
                        replace hb191 := hb191.trans (if_pos c447)
                        refine pm_aload_n hC 0 (by decide) dX12_sumHere_179 rfl ?_
                        refine pm_bipush (v := 42) hC dX12_sumHere_180 (by decide) ?_
                        refine pm_callV (ci := 12) (as := [(0, 42)]) (st := []) hC 90 (fP_X12_isSign 42 ⟨by decide, by decide⟩) lm_X12_145 li_X12_isSign (by decide) (by decide) rfl rfl rfl (by decide) rfl rfl (Nat.le_of_ble_eq_true rfl) ⟨Nat.le_refl _, Or.inl rfl⟩ dX12_sumHere_182 ⟨rfl, hV180⟩ (fun r448 V449 hp450 => ?_)
                        obtain ⟨y451, rfl, b452, rfl, hE453⟩ := hp450
                        replace hb191 := hb191.trans (pf_call_eq hE453)
                        change pm_J X 185 [(0, (3, 90)), (1, (0, x177)), (2, (0, x34)), (3, (0, y132))] [(0, y451)] 118 V179
                        refine pm_if_eq (tgt := 192) hC ⟨by exact ow_67_17 b452, by exact ow_67_18 b452⟩ dX12_sumHere_185 (by decide) (fun c454 => ?_) (fun c454 => ?_)
                        · skip
                          replace hb191 := hb191.trans (if_pos c454)
                          refine pm_iconst (v := (-1)) hC dX12_sumHere_192 ?_
                          refine pm_istore_n (lv' := [(3, (0, (-1))), (0, (3, 90)), (1, (0, x177)), (2, (0, x34))]) hC dX12_sumHere_193 (by decide) rfl ?_
                          refine pm_iload_n hC 0 dX12_sumHere_194 rfl ?_
                          refine pm_iconst (v := (-1)) hC dX12_sumHere_195 ?_
                          refine pm_icmp_eq (tgt := 203) hC ⟨by decide, by decide⟩ ⟨by decide, by decide⟩ dX12_sumHere_196 (by decide) (fun c455 => ?_) (fun c455 => ?_)
                          · skip
                            refine pm_iconst (v := 0) hC dX12_sumHere_203 ?_
                            refine pm_istore_n (lv' := [(2, (0, 0)), (3, (0, (-1))), (0, (3, 90)), (1, (0, x177))]) hC dX12_sumHere_204 (by decide) rfl ?_
                            refine pm_iload_n hC 0 dX12_sumHere_205 rfl ?_
                            refine pm_if_ne (tgt := 212) hC ⟨by decide, by decide⟩ dX12_sumHere_206 (by decide) (fun c456 => ?_) (fun c456 => ?_)
                            · skip
                              exfalso; exact ow_67_28 c456
                            · skip
                              refine pm_goto (tgt := 9) hC dX12_sumHere_209 (by decide) ?_
                              replace hb104 := hb104.trans (pf_val_inr hb191)
                              replace hb48 := hb48.trans (pf_val_inr hb104)
                              refine pm_lvsub [2, 3, 0] (lv' := [(0, (3, 90)), (1, (0, x177)), (2, (0, 0))]) rfl ?_
                              exact ih52 _ (by (exact ow_67_52 b35 hm50 c68 hx188 e197 b198 b215 c217)) x177 0 V179 ⟨by exact ow_67_30 b178, by exact ow_67_53 c433⟩ ⟨by decide, by decide⟩ hV180 hF181 e182 hp183 hp184 (by (have e : V179 90 2 = y196 := e197); rw [e]; exact ow_67_32 hx188 e197 e200 b201) (hS.cast rfl (by exact ow_67_33)) (by rw [(show V179 90 33 = y205 from e206), (show V179 90 39 = y208 from e209), (show V179 90 4 = y202 from e203)]; exact ow_67_34 hx187 e203 e206 e209) (by rw [(show V179 90 2 = y196 from e197), (show V179 90 3 = y199 from e200)]; exact ow_67_35 hx188 e197 e200) (hT.trans (pf_val_inl hb48)) rfl
                          · skip
                            exfalso; exact ow_67_36 c455
                        · skip
                          replace hb191 := hb191.trans (if_neg c454)
                          refine pm_iconst (v := 4) hC dX12_sumHere_188 ?_
                          refine pm_goto (tgt := 193) hC dX12_sumHere_189 (by decide) ?_
                          refine pm_istore_n (lv' := [(3, (0, 4)), (0, (3, 90)), (1, (0, x177)), (2, (0, x34))]) hC dX12_sumHere_193 (by decide) rfl ?_
                          refine pm_iload_n hC 0 dX12_sumHere_194 rfl ?_
                          refine pm_iconst (v := (-1)) hC dX12_sumHere_195 ?_
                          refine pm_icmp_eq (tgt := 203) hC ⟨by decide, by decide⟩ ⟨by decide, by decide⟩ dX12_sumHere_196 (by decide) (fun c457 => ?_) (fun c457 => ?_)
                          · skip
                            exfalso; exact ow_67_37 c457
                          · skip
                            refine pm_iconst (v := 1) hC dX12_sumHere_199 ?_
                            refine pm_goto (tgt := 204) hC dX12_sumHere_200 (by decide) ?_
                            refine pm_istore_n (lv' := [(2, (0, 1)), (3, (0, 4)), (0, (3, 90)), (1, (0, x177))]) hC dX12_sumHere_204 (by decide) rfl ?_
                            refine pm_iload_n hC 0 dX12_sumHere_205 rfl ?_
                            refine pm_if_ne (tgt := 212) hC ⟨by decide, by decide⟩ dX12_sumHere_206 (by decide) (fun c458 => ?_) (fun c458 => ?_)
                            · skip
                              refine pm_aload_n hC 2 (by decide) dX12_sumHere_212 rfl ?_
                              refine pm_iload_n hC 1 dX12_sumHere_213 rfl ?_
                              refine pm_callS (as := [(0, 4)]) (st := [(3, 90)]) hC (fP_X12_rank 4 ⟨by decide, by decide⟩) lm_X12_244 ls_X12_rank (by decide) (by decide) rfl rfl (Nat.le_of_ble_eq_true rfl) ⟨Nat.le_refl _, Or.inl rfl⟩ dX12_sumHere_214 ⟨rfl, hV180⟩ (fun r459 V460 hp461 => ?_)
                              obtain ⟨y462, rfl, b463, rfl, hE464⟩ := hp461
                              replace hb191 := hb191.trans (pf_call_eq hE464)
                              change pm_J X 217 [(2, (0, 1)), (3, (0, 4)), (0, (3, 90)), (1, (0, x177))] [(0, y462), (3, 90)] 118 V179
                              refine pm_callV (ci := 12) (as := [(0, y462)]) (st := []) hC 90 (fP_X12_empties y462 ⟨by exact ow_67_38 b463, by exact ow_67_39 b463⟩) lm_X12_265 li_X12_empties (by decide) (by decide) rfl rfl rfl (by decide) rfl rfl (Nat.le_of_ble_eq_true rfl) ⟨Nat.le_refl _, Or.inl rfl⟩ dX12_sumHere_217 ⟨rfl, hV180, (show V179 90 33 + V179 90 39 ≤ 600 by exact ow_67_6 hmp0 hx187 e203 b204)⟩ (fun r465 V466 hp467 => ?_)
                              obtain ⟨rfl, hV468, hF469, hE470⟩ := hp467
                              replace hb191 := hb191.trans (pf_call_eq hE470)
                              change pm_J X 220 [(2, (0, 1)), (3, (0, 4)), (0, (3, 90)), (1, (0, x177))] [] 118 V466
                              have hF471 := pm_fs.tr hF181 hF469 (by decide) (by decide)
                              have e472 : V466 90 1 = y7 := by rw [hF469.2 1 (by decide)]; exact e182
                              have e473 : V466 90 2 = y196 := by rw [hF469.2 2 (by decide)]; exact e197
                              have e474 : V466 90 3 = y199 := by rw [hF469.2 3 (by decide)]; exact e200
                              have e475 : V466 90 4 = y202 := by rw [hF469.2 4 (by decide)]; exact e203
                              have hp476 : pm_az V466 := (pm_az.fr hp183 (hF469.2 1 (by decide)) (hF469.2 2 (by decide)))
                              have hp477 : pm_tk V466 := (pm_tk.fr hp184 (hF469.2 2 (by decide)) (hF469.2 3 (by decide)) (hF469.2 4 (by decide)))
                              obtain ⟨hS, hLe, hTp, hE1, hE2⟩ := pm_sa_empt hS hE470
                              have hPo := hS.pos
                              obtain ⟨y478, e479⟩ : ∃ y, V466 90 33 = y := ⟨_, rfl⟩
                              have b480 := hV468.get 90 33 (lo := 0) (hi := 600) (by decide) (by decide) rfl
                              rw [e479] at b480
                              replace hb191 := hb191.trans (pf_let_eq e479)
                              obtain ⟨y481, e482⟩ : ∃ y, V466 90 39 = y := ⟨_, rfl⟩
                              have b483 := hV468.get 90 39 (lo := 0) (hi := 600) (by decide) (by decide) rfl
                              rw [e482] at b483
                              replace hb191 := hb191.trans (pf_let_eq e482)
                              clear hE1 hE2
                              refine pm_aload_n hC 2 (by decide) dX12_sumHere_220 rfl ?_
                              have e484 : V466 90 38 = 109 := hV468.one 90 38 (by decide) (by decide) rfl
                              refine pm_getf (v := 109) hC 90 fl_X12_67 rfl rfl (by decide) rfl e484 dX12_sumHere_221 ?_
                              refine pm_aload_n hC 2 (by decide) dX12_sumHere_224 rfl ?_
                              refine pm_getf (v := y481) hC 90 fl_X12_241 rfl rfl (by decide) rfl e482 dX12_sumHere_225 ?_
                              refine pm_iload_n hC 1 dX12_sumHere_228 rfl ?_
                              refine pm_iastore (len := 600) hC 109 rfl rfl (by decide) ⟨by exact ow_67_23 b483, by exact ow_67_40 hmp0 hx187 e203 b204 hLe e479 b480 e482⟩ (by decide) dX12_sumHere_229 ?_
                              refine pm_aload_n hC 2 (by decide) dX12_sumHere_230 rfl ?_
                              refine pm_dup hC rfl dX12_sumHere_231 ?_
                              refine pm_getf (v := y481) hC 90 fl_X12_241 rfl rfl (by decide) rfl e482 dX12_sumHere_232 ?_
                              refine pm_iconst (v := 1) hC dX12_sumHere_235 ?_
                              refine pm_iadd hC dX12_sumHere_236 ?_
                              refine pm_putf hC 90 fl_X12_241 rfl rfl rfl (by decide) rfl trivial dX12_sumHere_237 ?_
                              refine pm_aload_n hC 2 (by decide) dX12_sumHere_240 rfl ?_
                              have hV487 := ((hV468.put 109 (y481 : Int).toNat (x := 4) (lo := (-1)) (hi := 7) rfl ⟨by decide, by decide⟩).put 90 39 (x := (y481 + 1)) (lo := 0) (hi := 600) rfl ⟨by exact ow_67_41 b483, by exact ow_67_42 hmp0 hx187 e203 b204 hLe e479 b480 e482⟩)
                              have hF488 := ((hF471.up 109 (y481 : Int).toNat 4 (by decide) rfl).upf 39 (y481 + 1) rfl)
                              obtain ⟨V485, hv486⟩ : ∃ V, V = (pm_up (pm_up V466 109 (y481 : Int).toNat 4) 90 39 (y481 + 1)) := ⟨_, rfl⟩
                              rw [← hv486] at hV487 hF488
                              rw [← hv486]
                              replace hb191 := hb191.trans (pf_let_eq hv486.symm)
                              have e489 : V485 90 1 = y7 := by rw [hv486]; exact e472
                              have e490 : V485 90 2 = y196 := by rw [hv486]; exact e473
                              have e491 : V485 90 3 = y199 := by rw [hv486]; exact e474
                              have e492 : V485 90 4 = y202 := by rw [hv486]; exact e475
                              have e493 : V485 90 33 = y478 := by rw [hv486]; exact e479
                              have e494 : V485 90 38 = 109 := by rw [hv486]; exact e484
                              have e495 : V485 90 39 = (y481 + 1) := by rw [hv486]; rfl
                              have hp496 : pm_az V485 := by rw [hv486]; exact (pm_az.fr hp476 rfl rfl)
                              have hp497 : pm_tk V485 := by rw [hv486]; exact (pm_tk.fr hp477 rfl rfl rfl)
                              have hS : pm_SX V485 x177 H0 L0 0 := by rw [hv486, ← e482]; exact (pm_push hS (Or.inr ⟨by decide, by decide⟩)).cast (by rw [if_neg (by decide)]; exact ow_67_43) (by rw [if_neg (by decide)]; rfl)
                              refine pm_callV (ci := 12) (as := []) (st := []) hC 90 fP_X12_leads lm_X12_148 li_X12_leads (by decide) (by decide) rfl rfl rfl (by decide) rfl rfl (Nat.le_of_ble_eq_true rfl) ⟨Nat.le_refl _, Or.inl rfl⟩ dX12_sumHere_241 ⟨rfl, hV487, hp496⟩ (fun r498 V499 hp500 => ?_)
                              obtain ⟨rfl, hV501, hF502, hg503, hE504⟩ := hp500
                              replace hb191 := hb191.trans (pf_call_eq hE504)
                              change pm_J X 244 [(2, (0, 1)), (3, (0, 4)), (0, (3, 90)), (1, (0, x177))] [] 118 V499
                              have hF505 := pm_fs.tr hF488 hF502 (by decide) (by decide)
                              have e506 : V499 90 1 = y7 := by rw [hF502.2 1 (by decide)]; exact e489
                              have e507 : V499 90 33 = y478 := by rw [hF502.2 33 (by decide)]; exact e493
                              have e508 : V499 90 38 = 109 := by rw [hF502.2 38 (by decide)]; exact e494
                              have e509 : V499 90 39 = (y481 + 1) := by rw [hF502.2 39 (by decide)]; exact e495
                              obtain ⟨y510, e511⟩ : ∃ y, V499 90 2 = y := ⟨_, rfl⟩
                              have b512 := hV501.get 90 2 (lo := 0) (hi := 500) (by decide) (by decide) rfl
                              rw [e511] at b512
                              replace hb191 := hb191.trans (pf_let_eq e511)
                              obtain ⟨y513, e514⟩ : ∃ y, V499 90 3 = y := ⟨_, rfl⟩
                              have b515 := hV501.get 90 3 (lo := 0) (hi := 4) (by decide) (by decide) rfl
                              rw [e514] at b515
                              replace hb191 := hb191.trans (pf_let_eq e514)
                              obtain ⟨y516, e517⟩ : ∃ y, V499 90 4 = y := ⟨_, rfl⟩
                              have b518 := hV501.get 90 4 (lo := 0) (hi := 500) (by decide) (by decide) rfl
                              rw [e517] at b518
                              replace hb191 := hb191.trans (pf_let_eq e517)
                              have hpr519 := r_leads_pr hV487 hp496 hE504
                              have htk520 : pm_tk V499 := hpr519.2.2.2.1
                              have hS := hS.fr (hF502.1 107 (by decide) (by decide)) (hF502.1 109 (by decide) (by decide)) (hF502.2 33 (by decide)) (hF502.2 39 (by decide))
                              refine pm_goto (tgt := 9) hC dX12_sumHere_244 (by decide) ?_
                              replace hb104 := hb104.trans (pf_val_inr hb191)
                              replace hb48 := hb48.trans (pf_val_inr hb104)
                              refine pm_lvsub [2, 3, 0] (lv' := [(0, (3, 90)), (1, (0, x177)), (2, (0, 1))]) rfl ?_
                              exact ih52 _ (by (exact ow_67_44 b35 hm50 c68 hx188 e197 b215 c217 e490 e511 b512 e514 b515 hpr519)) x177 1 V499 ⟨by exact ow_67_30 b178, by exact ow_67_53 c433⟩ ⟨by decide, by decide⟩ hV501 hF505 e506 hg503 htk520 (by (have e : V499 90 2 = y510 := e511); rw [e]; exact ow_67_45 hx188 e197 e200 b201 e490 e511 hpr519) (hS.cast rfl (by exact ow_67_46)) (by rw [(show V499 90 33 = y478 from e507), (show V499 90 39 = (y481 + 1) from e509), (show V499 90 4 = y516 from e517)]; (exact ow_67_47 hx187 e197 htk b452 c454 hLe e479 e482 e490 e517 hpr519)) (by rw [(show V499 90 2 = y510 from e511), (show V499 90 3 = y513 from e514)]; exact ow_67_48) (hT.trans (pf_val_inl hb48)) rfl
                            · skip
                              exfalso; exact ow_67_49 c458
                      · skip
                        replace hb191 := hb191.trans (if_neg c447)
                        refine pm_iconst (v := 3) hC dX12_sumHere_175 ?_
                        refine pm_goto (tgt := 193) hC dX12_sumHere_176 (by decide) ?_
                        refine pm_istore_n (lv' := [(3, (0, 3)), (0, (3, 90)), (1, (0, x177)), (2, (0, x34))]) hC dX12_sumHere_193 (by decide) rfl ?_
                        refine pm_iload_n hC 0 dX12_sumHere_194 rfl ?_
                        refine pm_iconst (v := (-1)) hC dX12_sumHere_195 ?_
                        refine pm_icmp_eq (tgt := 203) hC ⟨by decide, by decide⟩ ⟨by decide, by decide⟩ dX12_sumHere_196 (by decide) (fun c521 => ?_) (fun c521 => ?_)
                        · skip
                          exfalso; exact ow_67_50 c521
                        · skip
                          refine pm_iconst (v := 1) hC dX12_sumHere_199 ?_
                          refine pm_goto (tgt := 204) hC dX12_sumHere_200 (by decide) ?_
                          refine pm_istore_n (lv' := [(2, (0, 1)), (3, (0, 3)), (0, (3, 90)), (1, (0, x177))]) hC dX12_sumHere_204 (by decide) rfl ?_
                          refine pm_iload_n hC 0 dX12_sumHere_205 rfl ?_
                          refine pm_if_ne (tgt := 212) hC ⟨by decide, by decide⟩ dX12_sumHere_206 (by decide) (fun c522 => ?_) (fun c522 => ?_)
                          · skip
                            refine pm_aload_n hC 2 (by decide) dX12_sumHere_212 rfl ?_
                            refine pm_iload_n hC 1 dX12_sumHere_213 rfl ?_
                            refine pm_callS (as := [(0, 3)]) (st := [(3, 90)]) hC (fP_X12_rank 3 ⟨by decide, by decide⟩) lm_X12_244 ls_X12_rank (by decide) (by decide) rfl rfl (Nat.le_of_ble_eq_true rfl) ⟨Nat.le_refl _, Or.inl rfl⟩ dX12_sumHere_214 ⟨rfl, hV180⟩ (fun r523 V524 hp525 => ?_)
                            obtain ⟨y526, rfl, b527, rfl, hE528⟩ := hp525
                            replace hb191 := hb191.trans (pf_call_eq hE528)
                            change pm_J X 217 [(2, (0, 1)), (3, (0, 3)), (0, (3, 90)), (1, (0, x177))] [(0, y526), (3, 90)] 118 V179
                            refine pm_callV (ci := 12) (as := [(0, y526)]) (st := []) hC 90 (fP_X12_empties y526 ⟨by exact ow_67_38 b527, by exact ow_67_39 b527⟩) lm_X12_265 li_X12_empties (by decide) (by decide) rfl rfl rfl (by decide) rfl rfl (Nat.le_of_ble_eq_true rfl) ⟨Nat.le_refl _, Or.inl rfl⟩ dX12_sumHere_217 ⟨rfl, hV180, (show V179 90 33 + V179 90 39 ≤ 600 by exact ow_67_6 hmp0 hx187 e203 b204)⟩ (fun r529 V530 hp531 => ?_)
                            obtain ⟨rfl, hV532, hF533, hE534⟩ := hp531
                            replace hb191 := hb191.trans (pf_call_eq hE534)
                            change pm_J X 220 [(2, (0, 1)), (3, (0, 3)), (0, (3, 90)), (1, (0, x177))] [] 118 V530
                            have hF535 := pm_fs.tr hF181 hF533 (by decide) (by decide)
                            have e536 : V530 90 1 = y7 := by rw [hF533.2 1 (by decide)]; exact e182
                            have e537 : V530 90 2 = y196 := by rw [hF533.2 2 (by decide)]; exact e197
                            have e538 : V530 90 3 = y199 := by rw [hF533.2 3 (by decide)]; exact e200
                            have e539 : V530 90 4 = y202 := by rw [hF533.2 4 (by decide)]; exact e203
                            have hp540 : pm_az V530 := (pm_az.fr hp183 (hF533.2 1 (by decide)) (hF533.2 2 (by decide)))
                            have hp541 : pm_tk V530 := (pm_tk.fr hp184 (hF533.2 2 (by decide)) (hF533.2 3 (by decide)) (hF533.2 4 (by decide)))
                            obtain ⟨hS, hLe, hTp, hE1, hE2⟩ := pm_sa_empt hS hE534
                            have hPo := hS.pos
                            obtain ⟨y542, e543⟩ : ∃ y, V530 90 33 = y := ⟨_, rfl⟩
                            have b544 := hV532.get 90 33 (lo := 0) (hi := 600) (by decide) (by decide) rfl
                            rw [e543] at b544
                            replace hb191 := hb191.trans (pf_let_eq e543)
                            obtain ⟨y545, e546⟩ : ∃ y, V530 90 39 = y := ⟨_, rfl⟩
                            have b547 := hV532.get 90 39 (lo := 0) (hi := 600) (by decide) (by decide) rfl
                            rw [e546] at b547
                            replace hb191 := hb191.trans (pf_let_eq e546)
                            clear hE1 hE2
                            refine pm_aload_n hC 2 (by decide) dX12_sumHere_220 rfl ?_
                            have e548 : V530 90 38 = 109 := hV532.one 90 38 (by decide) (by decide) rfl
                            refine pm_getf (v := 109) hC 90 fl_X12_67 rfl rfl (by decide) rfl e548 dX12_sumHere_221 ?_
                            refine pm_aload_n hC 2 (by decide) dX12_sumHere_224 rfl ?_
                            refine pm_getf (v := y545) hC 90 fl_X12_241 rfl rfl (by decide) rfl e546 dX12_sumHere_225 ?_
                            refine pm_iload_n hC 1 dX12_sumHere_228 rfl ?_
                            refine pm_iastore (len := 600) hC 109 rfl rfl (by decide) ⟨by exact ow_67_23 b547, by exact ow_67_40 hmp0 hx187 e203 b204 hLe e543 b544 e546⟩ (by decide) dX12_sumHere_229 ?_
                            refine pm_aload_n hC 2 (by decide) dX12_sumHere_230 rfl ?_
                            refine pm_dup hC rfl dX12_sumHere_231 ?_
                            refine pm_getf (v := y545) hC 90 fl_X12_241 rfl rfl (by decide) rfl e546 dX12_sumHere_232 ?_
                            refine pm_iconst (v := 1) hC dX12_sumHere_235 ?_
                            refine pm_iadd hC dX12_sumHere_236 ?_
                            refine pm_putf hC 90 fl_X12_241 rfl rfl rfl (by decide) rfl trivial dX12_sumHere_237 ?_
                            refine pm_aload_n hC 2 (by decide) dX12_sumHere_240 rfl ?_
                            have hV551 := ((hV532.put 109 (y545 : Int).toNat (x := 3) (lo := (-1)) (hi := 7) rfl ⟨by decide, by decide⟩).put 90 39 (x := (y545 + 1)) (lo := 0) (hi := 600) rfl ⟨by exact ow_67_41 b547, by exact ow_67_42 hmp0 hx187 e203 b204 hLe e543 b544 e546⟩)
                            have hF552 := ((hF535.up 109 (y545 : Int).toNat 3 (by decide) rfl).upf 39 (y545 + 1) rfl)
                            obtain ⟨V549, hv550⟩ : ∃ V, V = (pm_up (pm_up V530 109 (y545 : Int).toNat 3) 90 39 (y545 + 1)) := ⟨_, rfl⟩
                            rw [← hv550] at hV551 hF552
                            rw [← hv550]
                            replace hb191 := hb191.trans (pf_let_eq hv550.symm)
                            have e553 : V549 90 1 = y7 := by rw [hv550]; exact e536
                            have e554 : V549 90 2 = y196 := by rw [hv550]; exact e537
                            have e555 : V549 90 3 = y199 := by rw [hv550]; exact e538
                            have e556 : V549 90 4 = y202 := by rw [hv550]; exact e539
                            have e557 : V549 90 33 = y542 := by rw [hv550]; exact e543
                            have e558 : V549 90 38 = 109 := by rw [hv550]; exact e548
                            have e559 : V549 90 39 = (y545 + 1) := by rw [hv550]; rfl
                            have hp560 : pm_az V549 := by rw [hv550]; exact (pm_az.fr hp540 rfl rfl)
                            have hp561 : pm_tk V549 := by rw [hv550]; exact (pm_tk.fr hp541 rfl rfl rfl)
                            have hS : pm_SX V549 x177 H0 L0 0 := by rw [hv550, ← e546]; exact (pm_push hS (Or.inr ⟨by decide, by decide⟩)).cast (by rw [if_neg (by decide)]; exact ow_67_43) (by rw [if_neg (by decide)]; rfl)
                            refine pm_callV (ci := 12) (as := []) (st := []) hC 90 fP_X12_leads lm_X12_148 li_X12_leads (by decide) (by decide) rfl rfl rfl (by decide) rfl rfl (Nat.le_of_ble_eq_true rfl) ⟨Nat.le_refl _, Or.inl rfl⟩ dX12_sumHere_241 ⟨rfl, hV551, hp560⟩ (fun r562 V563 hp564 => ?_)
                            obtain ⟨rfl, hV565, hF566, hg567, hE568⟩ := hp564
                            replace hb191 := hb191.trans (pf_call_eq hE568)
                            change pm_J X 244 [(2, (0, 1)), (3, (0, 3)), (0, (3, 90)), (1, (0, x177))] [] 118 V563
                            have hF569 := pm_fs.tr hF552 hF566 (by decide) (by decide)
                            have e570 : V563 90 1 = y7 := by rw [hF566.2 1 (by decide)]; exact e553
                            have e571 : V563 90 33 = y542 := by rw [hF566.2 33 (by decide)]; exact e557
                            have e572 : V563 90 38 = 109 := by rw [hF566.2 38 (by decide)]; exact e558
                            have e573 : V563 90 39 = (y545 + 1) := by rw [hF566.2 39 (by decide)]; exact e559
                            obtain ⟨y574, e575⟩ : ∃ y, V563 90 2 = y := ⟨_, rfl⟩
                            have b576 := hV565.get 90 2 (lo := 0) (hi := 500) (by decide) (by decide) rfl
                            rw [e575] at b576
                            replace hb191 := hb191.trans (pf_let_eq e575)
                            obtain ⟨y577, e578⟩ : ∃ y, V563 90 3 = y := ⟨_, rfl⟩
                            have b579 := hV565.get 90 3 (lo := 0) (hi := 4) (by decide) (by decide) rfl
                            rw [e578] at b579
                            replace hb191 := hb191.trans (pf_let_eq e578)
                            obtain ⟨y580, e581⟩ : ∃ y, V563 90 4 = y := ⟨_, rfl⟩
                            have b582 := hV565.get 90 4 (lo := 0) (hi := 500) (by decide) (by decide) rfl
                            rw [e581] at b582
                            replace hb191 := hb191.trans (pf_let_eq e581)
                            have hpr583 := r_leads_pr hV551 hp560 hE568
                            have htk584 : pm_tk V563 := hpr583.2.2.2.1
                            have hS := hS.fr (hF566.1 107 (by decide) (by decide)) (hF566.1 109 (by decide) (by decide)) (hF566.2 33 (by decide)) (hF566.2 39 (by decide))
                            refine pm_goto (tgt := 9) hC dX12_sumHere_244 (by decide) ?_
                            replace hb104 := hb104.trans (pf_val_inr hb191)
                            replace hb48 := hb48.trans (pf_val_inr hb104)
                            refine pm_lvsub [2, 3, 0] (lv' := [(0, (3, 90)), (1, (0, x177)), (2, (0, 1))]) rfl ?_
                            exact ih52 _ (by (exact ow_67_44 b35 hm50 c68 hx188 e197 b215 c217 e554 e575 b576 e578 b579 hpr583)) x177 1 V563 ⟨by exact ow_67_30 b178, by exact ow_67_53 c433⟩ ⟨by decide, by decide⟩ hV565 hF569 e570 hg567 htk584 (by (have e : V563 90 2 = y574 := e575); rw [e]; exact ow_67_45 hx188 e197 e200 b201 e554 e575 hpr583) (hS.cast rfl (by exact ow_67_46)) (by rw [(show V563 90 33 = y542 from e571), (show V563 90 39 = (y545 + 1) from e573), (show V563 90 4 = y580 from e581)]; (exact ow_67_47 hx187 e197 htk b445 c447 hLe e543 e546 e554 e581 hpr583)) (by rw [(show V563 90 2 = y574 from e575), (show V563 90 3 = y577 from e578)]; exact ow_67_48) (hT.trans (pf_val_inl hb48)) rfl
                          · skip
                            exfalso; exact ow_67_49 c522
                    · skip
                      replace hb191 := hb191.trans (if_neg c440)
                      refine pm_iconst (v := 2) hC dX12_sumHere_162 ?_
                      refine pm_goto (tgt := 193) hC dX12_sumHere_163 (by decide) ?_
                      refine pm_istore_n (lv' := [(3, (0, 2)), (0, (3, 90)), (1, (0, x177)), (2, (0, x34))]) hC dX12_sumHere_193 (by decide) rfl ?_
                      refine pm_iload_n hC 0 dX12_sumHere_194 rfl ?_
                      refine pm_iconst (v := (-1)) hC dX12_sumHere_195 ?_
                      refine pm_icmp_eq (tgt := 203) hC ⟨by decide, by decide⟩ ⟨by decide, by decide⟩ dX12_sumHere_196 (by decide) (fun c585 => ?_) (fun c585 => ?_)
                      · skip
                        exfalso; exact ow_67_51 c585
                      · skip
                        refine pm_iconst (v := 1) hC dX12_sumHere_199 ?_
                        refine pm_goto (tgt := 204) hC dX12_sumHere_200 (by decide) ?_
                        refine pm_istore_n (lv' := [(2, (0, 1)), (3, (0, 2)), (0, (3, 90)), (1, (0, x177))]) hC dX12_sumHere_204 (by decide) rfl ?_
                        refine pm_iload_n hC 0 dX12_sumHere_205 rfl ?_
                        refine pm_if_ne (tgt := 212) hC ⟨by decide, by decide⟩ dX12_sumHere_206 (by decide) (fun c586 => ?_) (fun c586 => ?_)
                        · skip
                          refine pm_aload_n hC 2 (by decide) dX12_sumHere_212 rfl ?_
                          refine pm_iload_n hC 1 dX12_sumHere_213 rfl ?_
                          refine pm_callS (as := [(0, 2)]) (st := [(3, 90)]) hC (fP_X12_rank 2 ⟨by decide, by decide⟩) lm_X12_244 ls_X12_rank (by decide) (by decide) rfl rfl (Nat.le_of_ble_eq_true rfl) ⟨Nat.le_refl _, Or.inl rfl⟩ dX12_sumHere_214 ⟨rfl, hV180⟩ (fun r587 V588 hp589 => ?_)
                          obtain ⟨y590, rfl, b591, rfl, hE592⟩ := hp589
                          replace hb191 := hb191.trans (pf_call_eq hE592)
                          change pm_J X 217 [(2, (0, 1)), (3, (0, 2)), (0, (3, 90)), (1, (0, x177))] [(0, y590), (3, 90)] 118 V179
                          refine pm_callV (ci := 12) (as := [(0, y590)]) (st := []) hC 90 (fP_X12_empties y590 ⟨by exact ow_67_38 b591, by exact ow_67_39 b591⟩) lm_X12_265 li_X12_empties (by decide) (by decide) rfl rfl rfl (by decide) rfl rfl (Nat.le_of_ble_eq_true rfl) ⟨Nat.le_refl _, Or.inl rfl⟩ dX12_sumHere_217 ⟨rfl, hV180, (show V179 90 33 + V179 90 39 ≤ 600 by exact ow_67_6 hmp0 hx187 e203 b204)⟩ (fun r593 V594 hp595 => ?_)
                          obtain ⟨rfl, hV596, hF597, hE598⟩ := hp595
                          replace hb191 := hb191.trans (pf_call_eq hE598)
                          change pm_J X 220 [(2, (0, 1)), (3, (0, 2)), (0, (3, 90)), (1, (0, x177))] [] 118 V594
                          have hF599 := pm_fs.tr hF181 hF597 (by decide) (by decide)
                          have e600 : V594 90 1 = y7 := by rw [hF597.2 1 (by decide)]; exact e182
                          have e601 : V594 90 2 = y196 := by rw [hF597.2 2 (by decide)]; exact e197
                          have e602 : V594 90 3 = y199 := by rw [hF597.2 3 (by decide)]; exact e200
                          have e603 : V594 90 4 = y202 := by rw [hF597.2 4 (by decide)]; exact e203
                          have hp604 : pm_az V594 := (pm_az.fr hp183 (hF597.2 1 (by decide)) (hF597.2 2 (by decide)))
                          have hp605 : pm_tk V594 := (pm_tk.fr hp184 (hF597.2 2 (by decide)) (hF597.2 3 (by decide)) (hF597.2 4 (by decide)))
                          obtain ⟨hS, hLe, hTp, hE1, hE2⟩ := pm_sa_empt hS hE598
                          have hPo := hS.pos
                          obtain ⟨y606, e607⟩ : ∃ y, V594 90 33 = y := ⟨_, rfl⟩
                          have b608 := hV596.get 90 33 (lo := 0) (hi := 600) (by decide) (by decide) rfl
                          rw [e607] at b608
                          replace hb191 := hb191.trans (pf_let_eq e607)
                          obtain ⟨y609, e610⟩ : ∃ y, V594 90 39 = y := ⟨_, rfl⟩
                          have b611 := hV596.get 90 39 (lo := 0) (hi := 600) (by decide) (by decide) rfl
                          rw [e610] at b611
                          replace hb191 := hb191.trans (pf_let_eq e610)
                          clear hE1 hE2
                          refine pm_aload_n hC 2 (by decide) dX12_sumHere_220 rfl ?_
                          have e612 : V594 90 38 = 109 := hV596.one 90 38 (by decide) (by decide) rfl
                          refine pm_getf (v := 109) hC 90 fl_X12_67 rfl rfl (by decide) rfl e612 dX12_sumHere_221 ?_
                          refine pm_aload_n hC 2 (by decide) dX12_sumHere_224 rfl ?_
                          refine pm_getf (v := y609) hC 90 fl_X12_241 rfl rfl (by decide) rfl e610 dX12_sumHere_225 ?_
                          refine pm_iload_n hC 1 dX12_sumHere_228 rfl ?_
                          refine pm_iastore (len := 600) hC 109 rfl rfl (by decide) ⟨by exact ow_67_23 b611, by exact ow_67_40 hmp0 hx187 e203 b204 hLe e607 b608 e610⟩ (by decide) dX12_sumHere_229 ?_
                          refine pm_aload_n hC 2 (by decide) dX12_sumHere_230 rfl ?_
                          refine pm_dup hC rfl dX12_sumHere_231 ?_
                          refine pm_getf (v := y609) hC 90 fl_X12_241 rfl rfl (by decide) rfl e610 dX12_sumHere_232 ?_
                          refine pm_iconst (v := 1) hC dX12_sumHere_235 ?_
                          refine pm_iadd hC dX12_sumHere_236 ?_
                          refine pm_putf hC 90 fl_X12_241 rfl rfl rfl (by decide) rfl trivial dX12_sumHere_237 ?_
                          refine pm_aload_n hC 2 (by decide) dX12_sumHere_240 rfl ?_
                          have hV615 := ((hV596.put 109 (y609 : Int).toNat (x := 2) (lo := (-1)) (hi := 7) rfl ⟨by decide, by decide⟩).put 90 39 (x := (y609 + 1)) (lo := 0) (hi := 600) rfl ⟨by exact ow_67_41 b611, by exact ow_67_42 hmp0 hx187 e203 b204 hLe e607 b608 e610⟩)
                          have hF616 := ((hF599.up 109 (y609 : Int).toNat 2 (by decide) rfl).upf 39 (y609 + 1) rfl)
                          obtain ⟨V613, hv614⟩ : ∃ V, V = (pm_up (pm_up V594 109 (y609 : Int).toNat 2) 90 39 (y609 + 1)) := ⟨_, rfl⟩
                          rw [← hv614] at hV615 hF616
                          rw [← hv614]
                          replace hb191 := hb191.trans (pf_let_eq hv614.symm)
                          have e617 : V613 90 1 = y7 := by rw [hv614]; exact e600
                          have e618 : V613 90 2 = y196 := by rw [hv614]; exact e601
                          have e619 : V613 90 3 = y199 := by rw [hv614]; exact e602
                          have e620 : V613 90 4 = y202 := by rw [hv614]; exact e603
                          have e621 : V613 90 33 = y606 := by rw [hv614]; exact e607
                          have e622 : V613 90 38 = 109 := by rw [hv614]; exact e612
                          have e623 : V613 90 39 = (y609 + 1) := by rw [hv614]; rfl
                          have hp624 : pm_az V613 := by rw [hv614]; exact (pm_az.fr hp604 rfl rfl)
                          have hp625 : pm_tk V613 := by rw [hv614]; exact (pm_tk.fr hp605 rfl rfl rfl)
                          have hS : pm_SX V613 x177 H0 L0 0 := by rw [hv614, ← e610]; exact (pm_push hS (Or.inr ⟨by decide, by decide⟩)).cast (by rw [if_neg (by decide)]; exact ow_67_43) (by rw [if_neg (by decide)]; rfl)
                          refine pm_callV (ci := 12) (as := []) (st := []) hC 90 fP_X12_leads lm_X12_148 li_X12_leads (by decide) (by decide) rfl rfl rfl (by decide) rfl rfl (Nat.le_of_ble_eq_true rfl) ⟨Nat.le_refl _, Or.inl rfl⟩ dX12_sumHere_241 ⟨rfl, hV615, hp624⟩ (fun r626 V627 hp628 => ?_)
                          obtain ⟨rfl, hV629, hF630, hg631, hE632⟩ := hp628
                          replace hb191 := hb191.trans (pf_call_eq hE632)
                          change pm_J X 244 [(2, (0, 1)), (3, (0, 2)), (0, (3, 90)), (1, (0, x177))] [] 118 V627
                          have hF633 := pm_fs.tr hF616 hF630 (by decide) (by decide)
                          have e634 : V627 90 1 = y7 := by rw [hF630.2 1 (by decide)]; exact e617
                          have e635 : V627 90 33 = y606 := by rw [hF630.2 33 (by decide)]; exact e621
                          have e636 : V627 90 38 = 109 := by rw [hF630.2 38 (by decide)]; exact e622
                          have e637 : V627 90 39 = (y609 + 1) := by rw [hF630.2 39 (by decide)]; exact e623
                          obtain ⟨y638, e639⟩ : ∃ y, V627 90 2 = y := ⟨_, rfl⟩
                          have b640 := hV629.get 90 2 (lo := 0) (hi := 500) (by decide) (by decide) rfl
                          rw [e639] at b640
                          replace hb191 := hb191.trans (pf_let_eq e639)
                          obtain ⟨y641, e642⟩ : ∃ y, V627 90 3 = y := ⟨_, rfl⟩
                          have b643 := hV629.get 90 3 (lo := 0) (hi := 4) (by decide) (by decide) rfl
                          rw [e642] at b643
                          replace hb191 := hb191.trans (pf_let_eq e642)
                          obtain ⟨y644, e645⟩ : ∃ y, V627 90 4 = y := ⟨_, rfl⟩
                          have b646 := hV629.get 90 4 (lo := 0) (hi := 500) (by decide) (by decide) rfl
                          rw [e645] at b646
                          replace hb191 := hb191.trans (pf_let_eq e645)
                          have hpr647 := r_leads_pr hV615 hp624 hE632
                          have htk648 : pm_tk V627 := hpr647.2.2.2.1
                          have hS := hS.fr (hF630.1 107 (by decide) (by decide)) (hF630.1 109 (by decide) (by decide)) (hF630.2 33 (by decide)) (hF630.2 39 (by decide))
                          refine pm_goto (tgt := 9) hC dX12_sumHere_244 (by decide) ?_
                          replace hb104 := hb104.trans (pf_val_inr hb191)
                          replace hb48 := hb48.trans (pf_val_inr hb104)
                          refine pm_lvsub [2, 3, 0] (lv' := [(0, (3, 90)), (1, (0, x177)), (2, (0, 1))]) rfl ?_
                          exact ih52 _ (by (exact ow_67_44 b35 hm50 c68 hx188 e197 b215 c217 e618 e639 b640 e642 b643 hpr647)) x177 1 V627 ⟨by exact ow_67_30 b178, by exact ow_67_53 c433⟩ ⟨by decide, by decide⟩ hV629 hF633 e634 hg631 htk648 (by (have e : V627 90 2 = y638 := e639); rw [e]; exact ow_67_45 hx188 e197 e200 b201 e618 e639 hpr647) (hS.cast rfl (by exact ow_67_46)) (by rw [(show V627 90 33 = y606 from e635), (show V627 90 39 = (y609 + 1) from e637), (show V627 90 4 = y644 from e645)]; (exact ow_67_47 hx187 e197 htk b438 c440 hLe e607 e610 e618 e645 hpr647)) (by rw [(show V627 90 2 = y638 from e639), (show V627 90 3 = y641 from e642)]; exact ow_67_48) (hT.trans (pf_val_inl hb48)) rfl
                        · skip
                          exfalso; exact ow_67_49 c586
                  · skip
                    replace hb191 := hb191.trans (if_neg (Int.not_le.mpr c433))
                    refine pm_aload_n hC 0 (by decide) dX12_sumHere_128 rfl ?_
                    refine pm_iconst (v := 1) hC dX12_sumHere_129 ?_
                    refine pm_callV (ci := 12) (as := [(0, 1)]) (st := []) hC 90 (fP_X12_empties 1 ⟨by decide, by decide⟩) lm_X12_265 li_X12_empties (by decide) (by decide) rfl rfl rfl (by decide) rfl rfl (Nat.le_of_ble_eq_true rfl) ⟨Nat.le_refl _, Or.inl rfl⟩ dX12_sumHere_130 ⟨rfl, hV180, (show V179 90 33 + V179 90 39 ≤ 600 by exact ow_67_6 hmp0 hx187 e203 b204)⟩ (fun r649 V650 hp651 => ?_)
                    obtain ⟨rfl, hV652, hF653, hE654⟩ := hp651
                    replace hb191 := hb191.trans (pf_call_eq hE654)
                    change pm_J X 133 [(0, (3, 90)), (1, (0, x177)), (2, (0, x34)), (3, (0, y132))] [] 118 V650
                    have hF655 := pm_fs.tr hF181 hF653 (by decide) (by decide)
                    have e656 : V650 90 1 = y7 := by rw [hF653.2 1 (by decide)]; exact e182
                    have e657 : V650 90 2 = y196 := by rw [hF653.2 2 (by decide)]; exact e197
                    have e658 : V650 90 3 = y199 := by rw [hF653.2 3 (by decide)]; exact e200
                    have e659 : V650 90 4 = y202 := by rw [hF653.2 4 (by decide)]; exact e203
                    have hp660 : pm_az V650 := (pm_az.fr hp183 (hF653.2 1 (by decide)) (hF653.2 2 (by decide)))
                    have hp661 : pm_tk V650 := (pm_tk.fr hp184 (hF653.2 2 (by decide)) (hF653.2 3 (by decide)) (hF653.2 4 (by decide)))
                    obtain ⟨hS, hLe, hTp, hE1, hE2⟩ := pm_sa_empt hS hE654
                    have hPo := hS.pos
                    replace hTp := hTp rfl
                    obtain ⟨y662, e663⟩ : ∃ y, V650 90 33 = y := ⟨_, rfl⟩
                    have b664 := hV652.get 90 33 (lo := 0) (hi := 600) (by decide) (by decide) rfl
                    rw [e663] at b664
                    replace hb191 := hb191.trans (pf_let_eq e663)
                    obtain ⟨y665, e666⟩ : ∃ y, V650 90 39 = y := ⟨_, rfl⟩
                    have b667 := hV652.get 90 39 (lo := 0) (hi := 600) (by decide) (by decide) rfl
                    rw [e666] at b667
                    replace hb191 := hb191.trans (pf_let_eq e666)
                    clear hE1 hE2
                    refine pm_aload_n hC 0 (by decide) dX12_sumHere_133 rfl ?_
                    refine pm_dup hC rfl dX12_sumHere_134 ?_
                    refine pm_getf (v := y665) hC 90 fl_X12_241 rfl rfl (by decide) rfl e666 dX12_sumHere_135 ?_
                    refine pm_iconst (v := 1) hC dX12_sumHere_138 ?_
                    refine pm_isub hC dX12_sumHere_139 ?_
                    refine pm_putf hC 90 fl_X12_241 rfl rfl rfl (by decide) rfl trivial dX12_sumHere_140 ?_
                    obtain ⟨x668, ei669⟩ : ∃ y : Int, x177 + (-1) = y := ⟨_, rfl⟩
                    replace hb191 := hb191.trans (pf_let_eq ei669)
                    refine pm_iinc (y := x668) (lv' := [(1, (0, x668)), (0, (3, 90)), (2, (0, x34)), (3, (0, y132))]) hC 1 dX12_sumHere_143 (by decide) rfl ei669 rfl ?_
                    refine pm_aload_n hC 1 (by decide) dX12_sumHere_146 rfl ?_
                    have hV672 := (hV652.put 90 39 (x := (y665 - 1)) (lo := 0) (hi := 600) rfl ⟨by exact ow_67_54 c433 hPo e666, by exact ow_67_55 hmp0 hx187 e203 b204 hLe e663 b664 e666⟩)
                    have hF673 := (hF655.upf 39 (y665 - 1) rfl)
                    obtain ⟨V670, hv671⟩ : ∃ V, V = (pm_up V650 90 39 (y665 - 1)) := ⟨_, rfl⟩
                    rw [← hv671] at hV672 hF673
                    rw [← hv671]
                    replace hb191 := hb191.trans (pf_let_eq hv671.symm)
                    have e674 : V670 90 1 = y7 := by rw [hv671]; exact e656
                    have e675 : V670 90 2 = y196 := by rw [hv671]; exact e657
                    have e676 : V670 90 3 = y199 := by rw [hv671]; exact e658
                    have e677 : V670 90 4 = y202 := by rw [hv671]; exact e659
                    have e678 : V670 90 33 = y662 := by rw [hv671]; exact e663
                    have e679 : V670 90 39 = (y665 - 1) := by rw [hv671]; rfl
                    have hp680 : pm_az V670 := by rw [hv671]; exact (pm_az.fr hp660 rfl rfl)
                    have hp681 : pm_tk V670 := by rw [hv671]; exact (pm_tk.fr hp661 rfl rfl rfl)
                    have hS : pm_SX V670 x668 H0 L0 1 := by rw [hv671, ← e666]; exact (pm_popb hS (by exact ow_67_56 c433 hPo) (by rcases hTp with q | q; (exfalso; exact ow_67_57 c433 hPo q); exact q.2)).cast (by exact ow_67_58 ei669) rfl
                    refine pm_callV (ci := 12) (as := []) (st := []) hC 90 fP_X12_leads lm_X12_148 li_X12_leads (by decide) (by decide) rfl rfl rfl (by decide) rfl rfl (Nat.le_of_ble_eq_true rfl) ⟨Nat.le_refl _, Or.inl rfl⟩ dX12_sumHere_147 ⟨rfl, hV672, hp680⟩ (fun r682 V683 hp684 => ?_)
                    obtain ⟨rfl, hV685, hF686, hg687, hE688⟩ := hp684
                    replace hb191 := hb191.trans (pf_call_eq hE688)
                    change pm_J X 150 [(1, (0, x668)), (0, (3, 90)), (2, (0, x34)), (3, (0, y132))] [] 118 V683
                    have hF689 := pm_fs.tr hF673 hF686 (by decide) (by decide)
                    have e690 : V683 90 1 = y7 := by rw [hF686.2 1 (by decide)]; exact e674
                    have e691 : V683 90 33 = y662 := by rw [hF686.2 33 (by decide)]; exact e678
                    have e692 : V683 90 39 = (y665 - 1) := by rw [hF686.2 39 (by decide)]; exact e679
                    obtain ⟨y693, e694⟩ : ∃ y, V683 90 2 = y := ⟨_, rfl⟩
                    have b695 := hV685.get 90 2 (lo := 0) (hi := 500) (by decide) (by decide) rfl
                    rw [e694] at b695
                    replace hb191 := hb191.trans (pf_let_eq e694)
                    obtain ⟨y696, e697⟩ : ∃ y, V683 90 3 = y := ⟨_, rfl⟩
                    have b698 := hV685.get 90 3 (lo := 0) (hi := 4) (by decide) (by decide) rfl
                    rw [e697] at b698
                    replace hb191 := hb191.trans (pf_let_eq e697)
                    obtain ⟨y699, e700⟩ : ∃ y, V683 90 4 = y := ⟨_, rfl⟩
                    have b701 := hV685.get 90 4 (lo := 0) (hi := 500) (by decide) (by decide) rfl
                    rw [e700] at b701
                    replace hb191 := hb191.trans (pf_let_eq e700)
                    have hpr702 := r_leads_pr hV672 hp680 hE688
                    have htk703 : pm_tk V683 := hpr702.2.2.2.1
                    have hS := hS.fr (hF686.1 107 (by decide) (by decide)) (hF686.1 109 (by decide) (by decide)) (hF686.2 33 (by decide)) (hF686.2 39 (by decide))
                    refine pm_goto (tgt := 115) hC dX12_sumHere_150 (by decide) ?_
                    refine pm_lvsub [1, 0, 2, 3] (lv' := [(0, (3, 90)), (1, (0, x668)), (2, (0, x34)), (3, (0, y132))]) rfl ?_
                    exact ih195 _ (by (exact ow_67_59 hm193 e197 b215 c217 e675 e694 b695 e697 b698 hpr702)) x668 V683 ⟨by exact ow_67_60 c433 ei669, by exact ow_67_61 b178 ei669⟩ hV685 hF689 e690 hg687 htk703 (by (have e : V683 90 2 = y693 := e694); rw [e]; exact ow_67_45 hx188 e197 e200 b201 e675 e694 hpr702) hS (by rw [(show V683 90 33 = y662 from e691), (show V683 90 39 = (y665 - 1) from e692), (show V683 90 4 = y699 from e700)]; (exact ow_67_62 hx187 e197 e200 b201 htk hLe e663 e666 e675 e700 hpr702)) (by rw [(show V683 90 2 = y693 from e694), (show V683 90 3 = y696 from e697)]; (exact ow_67_63 hx188 e197 e200 b201 e675 e694 e697 hpr702)) (hb104.trans (pf_val_inl hb191)) rfl
              refine pm_lvsub [1, 2, 3, 0] (lv' := [(0, (3, 90)), (1, (0, x89)), (2, (0, x34)), (3, (0, y132))]) rfl ?_
              exact L192 _ x89 V156 ⟨by exact ow_67_30 b90, by exact ow_67_31 b90⟩ hV158 hF162 e163 hg160 htk176 (by (have e : V156 90 2 = y166 := e167); rw [e]; exact ow_67_64 hm98 e110 e146 e167 hpr175) hS (by rw [(show V156 90 33 = y152 from e165), (show V156 90 39 = y118 from e164), (show V156 90 4 = y172 from e173)]; exact ow_67_65 hx100 e110 e119 htk b133 c135 hxp142 e146 e153 e173 hpr175) (by rw [(show V156 90 2 = y166 from e167), (show V156 90 3 = y169 from e170)]; exact ow_67_66 hm98 hx101 e110 b133 c135 e146 e167 e170 hpr175) hb104 rfl
            · skip
              replace hb104 := hb104.trans (if_neg (fun q => q c135))
              refine pm_iconst (v := 0) hC dX12_sumHere_103 ?_
              replace hb48 := hb48.trans (pf_val_inr hb104)
              replace hT := hT.trans (pf_val_inr hb48)
              exact pm_iret hC hR (pm_narZ (by exact ow_67_13)) ⟨0, rfl, ⟨by exact ow_67_14, by exact ow_67_8, by exact ow_67_15, by exact ow_67_16 hm98⟩, hV92, hF93, hp96, hp97, (fun q => absurd q (by decide)), (fun q => absurd q (by decide)), hT⟩ dX12_sumHere_104
          · skip
            replace hb104 := hb104.trans (if_neg (fun q => q c128))
            refine pm_aload_n hC 0 (by decide) dX12_sumHere_68 rfl ?_
            refine pm_iconst (v := 0) hC dX12_sumHere_69 ?_
            refine pm_sipush (v := 9999) hC dX12_sumHere_70 (by decide) ?_
            refine pm_callV (ci := 12) (as := [(0, 0), (0, 9999)]) (st := []) hC 90 (fP_X12_number 0 9999 ⟨by decide, by decide⟩ ⟨by decide, by decide⟩) lm_X12_179 li_X12_number (by decide) (by decide) rfl rfl rfl (by decide) rfl rfl (Nat.le_of_ble_eq_true rfl) ⟨Nat.le_refl _, Or.inl rfl⟩ dX12_sumHere_73 ⟨rfl, hV92, hp96, hp97⟩ (fun r704 V705 hp706 => ?_)
            obtain ⟨y707, rfl, b708, hV709, hF710, hg711, hg712, hE713⟩ := hp706
            replace hb104 := hb104.trans (pf_call_eq hE713)
            change pm_J X 76 [(0, (3, 90)), (1, (0, x89)), (2, (0, x34))] [(0, y707)] 118 V705
            have hF714 := pm_fs.tr hF93 hF710 (by decide) (by decide)
            have e715 : V705 90 1 = y7 := by rw [hF710.2 1 (by decide)]; exact e94
            have e716 : V705 90 33 = y62 := by rw [hF710.2 33 (by decide)]; exact e95
            have e717 : V705 90 39 = y118 := by rw [hF710.2 39 (by decide)]; exact e119
            obtain ⟨y718, e719⟩ : ∃ y, V705 90 2 = y := ⟨_, rfl⟩
            have b720 := hV709.get 90 2 (lo := 0) (hi := 500) (by decide) (by decide) rfl
            rw [e719] at b720
            replace hb104 := hb104.trans (pf_let_eq e719)
            obtain ⟨y721, e722⟩ : ∃ y, V705 90 3 = y := ⟨_, rfl⟩
            have b723 := hV709.get 90 3 (lo := 0) (hi := 4) (by decide) (by decide) rfl
            rw [e722] at b723
            replace hb104 := hb104.trans (pf_let_eq e722)
            obtain ⟨y724, e725⟩ : ∃ y, V705 90 4 = y := ⟨_, rfl⟩
            have b726 := hV709.get 90 4 (lo := 0) (hi := 500) (by decide) (by decide) rfl
            rw [e725] at b726
            replace hb104 := hb104.trans (pf_let_eq e725)
            obtain ⟨y727, e728⟩ : ∃ y, V705 90 37 = y := ⟨_, rfl⟩
            have b729 := hV709.get 90 37 (lo := (-2147483648)) (hi := 2147483647) (by decide) (by decide) rfl
            rw [e728] at b729
            replace hb104 := hb104.trans (pf_let_eq e728)
            have hS := hS.fr (hF710.1 107 (by decide) (by decide)) (hF710.1 109 (by decide) (by decide)) (hF710.2 33 (by decide)) (hF710.2 39 (by decide))
            refine pm_if_ne (tgt := 81) hC ⟨by exact ow_67_67 b708, by exact ow_67_68 b708⟩ dX12_sumHere_76 (by decide) (fun c730 => ?_) (fun c730 => ?_)
            · skip
              replace hb104 := hb104.trans (if_pos c730)
              refine pm_aload_n hC 0 (by decide) dX12_sumHere_81 rfl ?_
              refine pm_iconst (v := 0) hC dX12_sumHere_82 ?_
              refine pm_aload_n hC 0 (by decide) dX12_sumHere_83 rfl ?_
              refine pm_getf (v := y727) hC 90 fl_X12_151 rfl rfl (by decide) rfl e728 dX12_sumHere_84 ?_
              have q734 : 0 ≤ V705 90 33 ∧ V705 90 33 ≤ 599 := by (have e : V705 90 33 = y62 := e716); rw [e]; exact ⟨by exact ow_67_23 b64, by exact ow_67_24 hmp0 e95 hx100 e116 b117 e119 b120⟩
              refine pm_callV (ci := 12) (as := [(0, 0), (0, y727)]) (st := []) hC 90 (fP_X12_lays 0 y727 ⟨by decide, by decide⟩ ⟨by exact ow_67_69 b708 e728 c730, by exact ow_67_70 b708 e728 c730⟩) lm_X12_248 li_X12_lays (by decide) (by decide) rfl rfl rfl (by decide) rfl rfl (Nat.le_of_ble_eq_true rfl) ⟨Nat.le_refl _, Or.inl rfl⟩ dX12_sumHere_87 ⟨rfl, hV709, q734⟩ (fun r731 V732 hp733 => ?_)
              obtain ⟨rfl, hV735, hF736, hxp737, hE738⟩ := hp733
              replace hb104 := hb104.trans (pf_call_eq hE738)
              change pm_J X 90 [(0, (3, 90)), (1, (0, x89)), (2, (0, x34))] [] 118 V732
              have hF739 := pm_fs.tr hF714 hF736 (by decide) (by decide)
              have e740 : V732 90 1 = y7 := by rw [hF736.2 1 (by decide)]; exact e715
              have e741 : V732 90 39 = y118 := by rw [hF736.2 39 (by decide)]; exact e717
              have e742 : V732 90 2 = y718 := by rw [hF736.2 2 (by decide)]; exact e719
              have e743 : V732 90 3 = y721 := by rw [hF736.2 3 (by decide)]; exact e722
              have e744 : V732 90 4 = y724 := by rw [hF736.2 4 (by decide)]; exact e725
              have e745 : V732 90 37 = y727 := by rw [hF736.2 37 (by decide)]; exact e728
              have hp746 : pm_az V732 := (pm_az.fr hg711 (hF736.2 1 (by decide)) (hF736.2 2 (by decide)))
              have hp747 : pm_tk V732 := (pm_tk.fr hg712 (hF736.2 2 (by decide)) (hF736.2 3 (by decide)) (hF736.2 4 (by decide)))
              obtain ⟨y748, e749⟩ : ∃ y, V732 90 33 = y := ⟨_, rfl⟩
              have b750 := hV735.get 90 33 (lo := 0) (hi := 600) (by decide) (by decide) rfl
              rw [e749] at b750
              replace hb104 := hb104.trans (pf_let_eq e749)
              have hS := pm_su_lay hS hE738 (Or.inl rfl)
              refine pm_goto (tgt := 115) hC dX12_sumHere_90 (by decide) ?_
              obtain ⟨B764, hB765, hb104⟩ := pf_loop hb104
              have L767 : ∀ (N769 : Nat) (x751 : Int) (V753 : pm_M), (0 ≤ x751 ∧ x751 ≤ 8) → pm_oq pm_qP V753 → pm_fs [107, 109] [2, 3, 4, 5, 33, 37, 39] V0 V753 → V753 90 1 = y7 → V753 90 37 = y727 → pm_az V753 → pm_tk V753 → (V0 90 2 ≤ V753 90 2) → (pm_SX V753 x751 H0 L0 1) → (V753 90 33 + V753 90 39 + V0 90 4 ≤ V753 90 4 + V0 90 33) → (5 * (500 - V753 90 2) + V753 90 3 + 1 ≤ 5 * (500 - V36 90 2) + V36 90 3 ∧ V753 90 3 ≤ 5 * (V753 90 2 - V0 90 2)) → B102 (x89, V91) = pf_val (.inr (.inr ((0 : Int), V0))) B764 (x751, V753) → (Int.toNat (5 * (500 - V753 90 2) + V753 90 3)) = N769 → pm_J X 115 [(0, (3, 90)), (1, (0, x751)), (2, (0, x34))] [] 118 V753 := by
                intro N769
                induction N769 using Nat.strongRecOn with
                | _ N769 ih770 =>
                intro x751 V753 b752 hV754 hF755 e756 e757 hp758 hp759 hm760 hx761 hx762 hx763 hb104 hm768
                have hb766 := congrFun hB765 (x751, V753)
                obtain ⟨y771, e772⟩ : ∃ y, V753 90 2 = y := ⟨_, rfl⟩
                have b773 := hV754.get 90 2 (lo := 0) (hi := 500) (by decide) (by decide) rfl
                rw [e772] at b773
                replace hb766 := hb766.trans (pf_let_eq e772)
                obtain ⟨y774, e775⟩ : ∃ y, V753 90 3 = y := ⟨_, rfl⟩
                have b776 := hV754.get 90 3 (lo := 0) (hi := 4) (by decide) (by decide) rfl
                rw [e775] at b776
                replace hb766 := hb766.trans (pf_let_eq e775)
                obtain ⟨y777, e778⟩ : ∃ y, V753 90 4 = y := ⟨_, rfl⟩
                have b779 := hV754.get 90 4 (lo := 0) (hi := 500) (by decide) (by decide) rfl
                rw [e778] at b779
                replace hb766 := hb766.trans (pf_let_eq e778)
                obtain ⟨y780, e781⟩ : ∃ y, V753 90 33 = y := ⟨_, rfl⟩
                have b782 := hV754.get 90 33 (lo := 0) (hi := 600) (by decide) (by decide) rfl
                rw [e781] at b782
                replace hb766 := hb766.trans (pf_let_eq e781)
                obtain ⟨y783, e784⟩ : ∃ y, V753 90 39 = y := ⟨_, rfl⟩
                have b785 := hV754.get 90 39 (lo := 0) (hi := 600) (by decide) (by decide) rfl
                rw [e784] at b785
                replace hb766 := hb766.trans (pf_let_eq e784)
                have hS := hx761
                have hLn := hx762
                have htk := hp759
                unfold pm_tk at htk
                refine pm_aload_n hC 0 (by decide) dX12_sumHere_115 rfl ?_
                refine pm_bipush (v := 41) hC dX12_sumHere_116 (by decide) ?_
                refine pm_callV (ci := 12) (as := [(0, 41)]) (st := []) hC 90 (fP_X12_isSign 41 ⟨by decide, by decide⟩) lm_X12_145 li_X12_isSign (by decide) (by decide) rfl rfl rfl (by decide) rfl rfl (Nat.le_of_ble_eq_true rfl) ⟨Nat.le_refl _, Or.inl rfl⟩ dX12_sumHere_118 ⟨rfl, hV754⟩ (fun r786 V787 hp788 => ?_)
                obtain ⟨y789, rfl, b790, rfl, hE791⟩ := hp788
                replace hb766 := hb766.trans (pf_call_eq hE791)
                change pm_J X 121 [(0, (3, 90)), (1, (0, x751)), (2, (0, x34))] [(0, y789)] 118 V753
                refine pm_if_eq (tgt := 153) hC ⟨by exact ow_67_17 b790, by exact ow_67_18 b790⟩ dX12_sumHere_121 (by decide) (fun c792 => ?_) (fun c792 => ?_)
                · skip
                  replace hb766 := hb766.trans (if_pos c792)
                  refine pm_aload_n hC 0 (by decide) dX12_sumHere_153 rfl ?_
                  refine pm_bipush (v := 43) hC dX12_sumHere_154 (by decide) ?_
                  refine pm_callV (ci := 12) (as := [(0, 43)]) (st := []) hC 90 (fP_X12_isSign 43 ⟨by decide, by decide⟩) lm_X12_145 li_X12_isSign (by decide) (by decide) rfl rfl rfl (by decide) rfl rfl (Nat.le_of_ble_eq_true rfl) ⟨Nat.le_refl _, Or.inl rfl⟩ dX12_sumHere_156 ⟨rfl, hV754⟩ (fun r793 V794 hp795 => ?_)
                  obtain ⟨y796, rfl, b797, rfl, hE798⟩ := hp795
                  replace hb766 := hb766.trans (pf_call_eq hE798)
                  change pm_J X 159 [(0, (3, 90)), (1, (0, x751)), (2, (0, x34))] [(0, y796)] 118 V753
                  refine pm_if_eq (tgt := 166) hC ⟨by exact ow_67_17 b797, by exact ow_67_18 b797⟩ dX12_sumHere_159 (by decide) (fun c799 => ?_) (fun c799 => ?_)
                  · skip
                    replace hb766 := hb766.trans (if_pos c799)
                    refine pm_aload_n hC 0 (by decide) dX12_sumHere_166 rfl ?_
                    refine pm_bipush (v := 45) hC dX12_sumHere_167 (by decide) ?_
                    refine pm_callV (ci := 12) (as := [(0, 45)]) (st := []) hC 90 (fP_X12_isSign 45 ⟨by decide, by decide⟩) lm_X12_145 li_X12_isSign (by decide) (by decide) rfl rfl rfl (by decide) rfl rfl (Nat.le_of_ble_eq_true rfl) ⟨Nat.le_refl _, Or.inl rfl⟩ dX12_sumHere_169 ⟨rfl, hV754⟩ (fun r800 V801 hp802 => ?_)
                    obtain ⟨y803, rfl, b804, rfl, hE805⟩ := hp802
                    replace hb766 := hb766.trans (pf_call_eq hE805)
                    change pm_J X 172 [(0, (3, 90)), (1, (0, x751)), (2, (0, x34))] [(0, y803)] 118 V753
                    refine pm_if_eq (tgt := 179) hC ⟨by exact ow_67_17 b804, by exact ow_67_18 b804⟩ dX12_sumHere_172 (by decide) (fun c806 => ?_) (fun c806 => ?_)
                    · skip
                      replace hb766 := hb766.trans (if_pos c806)
                      refine pm_aload_n hC 0 (by decide) dX12_sumHere_179 rfl ?_
                      refine pm_bipush (v := 42) hC dX12_sumHere_180 (by decide) ?_
                      refine pm_callV (ci := 12) (as := [(0, 42)]) (st := []) hC 90 (fP_X12_isSign 42 ⟨by decide, by decide⟩) lm_X12_145 li_X12_isSign (by decide) (by decide) rfl rfl rfl (by decide) rfl rfl (Nat.le_of_ble_eq_true rfl) ⟨Nat.le_refl _, Or.inl rfl⟩ dX12_sumHere_182 ⟨rfl, hV754⟩ (fun r807 V808 hp809 => ?_)
                      obtain ⟨y810, rfl, b811, rfl, hE812⟩ := hp809
                      replace hb766 := hb766.trans (pf_call_eq hE812)
                      change pm_J X 185 [(0, (3, 90)), (1, (0, x751)), (2, (0, x34))] [(0, y810)] 118 V753
                      refine pm_if_eq (tgt := 192) hC ⟨by exact ow_67_17 b811, by exact ow_67_18 b811⟩ dX12_sumHere_185 (by decide) (fun c813 => ?_) (fun c813 => ?_)
                      · skip
                        replace hb766 := hb766.trans (if_pos c813)
                        refine pm_iconst (v := (-1)) hC dX12_sumHere_192 ?_
                        refine pm_istore_n (lv' := [(3, (0, (-1))), (0, (3, 90)), (1, (0, x751)), (2, (0, x34))]) hC dX12_sumHere_193 (by decide) rfl ?_
                        refine pm_iload_n hC 0 dX12_sumHere_194 rfl ?_
                        refine pm_iconst (v := (-1)) hC dX12_sumHere_195 ?_
                        refine pm_icmp_eq (tgt := 203) hC ⟨by decide, by decide⟩ ⟨by decide, by decide⟩ dX12_sumHere_196 (by decide) (fun c814 => ?_) (fun c814 => ?_)
                        · skip
                          refine pm_iconst (v := 0) hC dX12_sumHere_203 ?_
                          refine pm_istore_n (lv' := [(2, (0, 0)), (3, (0, (-1))), (0, (3, 90)), (1, (0, x751))]) hC dX12_sumHere_204 (by decide) rfl ?_
                          refine pm_iload_n hC 0 dX12_sumHere_205 rfl ?_
                          refine pm_if_ne (tgt := 212) hC ⟨by decide, by decide⟩ dX12_sumHere_206 (by decide) (fun c815 => ?_) (fun c815 => ?_)
                          · skip
                            exfalso; exact ow_67_28 c815
                          · skip
                            refine pm_goto (tgt := 9) hC dX12_sumHere_209 (by decide) ?_
                            replace hb104 := hb104.trans (pf_val_inr hb766)
                            replace hb48 := hb48.trans (pf_val_inr hb104)
                            refine pm_lvsub [2, 3, 0] (lv' := [(0, (3, 90)), (1, (0, x751)), (2, (0, 0))]) rfl ?_
                            exact ih52 _ (by (exact ow_67_71 b35 hm50 hx101 e113 c128 b708 e719 b720 hx763)) x751 0 V753 ⟨by exact ow_67_30 b752, by exact ow_67_31 b752⟩ ⟨by decide, by decide⟩ hV754 hF755 e756 hp758 hp759 (by (have e : V753 90 2 = y771 := e772); rw [e]; exact ow_67_32 hx763 e772 e775 b776) (hS.cast rfl (by exact ow_67_33)) (by rw [(show V753 90 33 = y780 from e781), (show V753 90 39 = y783 from e784), (show V753 90 4 = y777 from e778)]; exact ow_67_34 hx762 e778 e781 e784) (by rw [(show V753 90 2 = y771 from e772), (show V753 90 3 = y774 from e775)]; exact ow_67_35 hx763 e772 e775) (hT.trans (pf_val_inl hb48)) rfl
                        · skip
                          exfalso; exact ow_67_36 c814
                      · skip
                        replace hb766 := hb766.trans (if_neg c813)
                        refine pm_iconst (v := 4) hC dX12_sumHere_188 ?_
                        refine pm_goto (tgt := 193) hC dX12_sumHere_189 (by decide) ?_
                        refine pm_istore_n (lv' := [(3, (0, 4)), (0, (3, 90)), (1, (0, x751)), (2, (0, x34))]) hC dX12_sumHere_193 (by decide) rfl ?_
                        refine pm_iload_n hC 0 dX12_sumHere_194 rfl ?_
                        refine pm_iconst (v := (-1)) hC dX12_sumHere_195 ?_
                        refine pm_icmp_eq (tgt := 203) hC ⟨by decide, by decide⟩ ⟨by decide, by decide⟩ dX12_sumHere_196 (by decide) (fun c816 => ?_) (fun c816 => ?_)
                        · skip
                          exfalso; exact ow_67_37 c816
                        · skip
                          refine pm_iconst (v := 1) hC dX12_sumHere_199 ?_
                          refine pm_goto (tgt := 204) hC dX12_sumHere_200 (by decide) ?_
                          refine pm_istore_n (lv' := [(2, (0, 1)), (3, (0, 4)), (0, (3, 90)), (1, (0, x751))]) hC dX12_sumHere_204 (by decide) rfl ?_
                          refine pm_iload_n hC 0 dX12_sumHere_205 rfl ?_
                          refine pm_if_ne (tgt := 212) hC ⟨by decide, by decide⟩ dX12_sumHere_206 (by decide) (fun c817 => ?_) (fun c817 => ?_)
                          · skip
                            refine pm_aload_n hC 2 (by decide) dX12_sumHere_212 rfl ?_
                            refine pm_iload_n hC 1 dX12_sumHere_213 rfl ?_
                            refine pm_callS (as := [(0, 4)]) (st := [(3, 90)]) hC (fP_X12_rank 4 ⟨by decide, by decide⟩) lm_X12_244 ls_X12_rank (by decide) (by decide) rfl rfl (Nat.le_of_ble_eq_true rfl) ⟨Nat.le_refl _, Or.inl rfl⟩ dX12_sumHere_214 ⟨rfl, hV754⟩ (fun r818 V819 hp820 => ?_)
                            obtain ⟨y821, rfl, b822, rfl, hE823⟩ := hp820
                            replace hb766 := hb766.trans (pf_call_eq hE823)
                            change pm_J X 217 [(2, (0, 1)), (3, (0, 4)), (0, (3, 90)), (1, (0, x751))] [(0, y821), (3, 90)] 118 V753
                            refine pm_callV (ci := 12) (as := [(0, y821)]) (st := []) hC 90 (fP_X12_empties y821 ⟨by exact ow_67_38 b822, by exact ow_67_39 b822⟩) lm_X12_265 li_X12_empties (by decide) (by decide) rfl rfl rfl (by decide) rfl rfl (Nat.le_of_ble_eq_true rfl) ⟨Nat.le_refl _, Or.inl rfl⟩ dX12_sumHere_217 ⟨rfl, hV754, (show V753 90 33 + V753 90 39 ≤ 600 by exact ow_67_6 hmp0 hx762 e778 b779)⟩ (fun r824 V825 hp826 => ?_)
                            obtain ⟨rfl, hV827, hF828, hE829⟩ := hp826
                            replace hb766 := hb766.trans (pf_call_eq hE829)
                            change pm_J X 220 [(2, (0, 1)), (3, (0, 4)), (0, (3, 90)), (1, (0, x751))] [] 118 V825
                            have hF830 := pm_fs.tr hF755 hF828 (by decide) (by decide)
                            have e831 : V825 90 1 = y7 := by rw [hF828.2 1 (by decide)]; exact e756
                            have e832 : V825 90 37 = y727 := by rw [hF828.2 37 (by decide)]; exact e757
                            have e833 : V825 90 2 = y771 := by rw [hF828.2 2 (by decide)]; exact e772
                            have e834 : V825 90 3 = y774 := by rw [hF828.2 3 (by decide)]; exact e775
                            have e835 : V825 90 4 = y777 := by rw [hF828.2 4 (by decide)]; exact e778
                            have hp836 : pm_az V825 := (pm_az.fr hp758 (hF828.2 1 (by decide)) (hF828.2 2 (by decide)))
                            have hp837 : pm_tk V825 := (pm_tk.fr hp759 (hF828.2 2 (by decide)) (hF828.2 3 (by decide)) (hF828.2 4 (by decide)))
                            obtain ⟨hS, hLe, hTp, hE1, hE2⟩ := pm_sa_empt hS hE829
                            have hPo := hS.pos
                            obtain ⟨y838, e839⟩ : ∃ y, V825 90 33 = y := ⟨_, rfl⟩
                            have b840 := hV827.get 90 33 (lo := 0) (hi := 600) (by decide) (by decide) rfl
                            rw [e839] at b840
                            replace hb766 := hb766.trans (pf_let_eq e839)
                            obtain ⟨y841, e842⟩ : ∃ y, V825 90 39 = y := ⟨_, rfl⟩
                            have b843 := hV827.get 90 39 (lo := 0) (hi := 600) (by decide) (by decide) rfl
                            rw [e842] at b843
                            replace hb766 := hb766.trans (pf_let_eq e842)
                            clear hE1 hE2
                            refine pm_aload_n hC 2 (by decide) dX12_sumHere_220 rfl ?_
                            have e844 : V825 90 38 = 109 := hV827.one 90 38 (by decide) (by decide) rfl
                            refine pm_getf (v := 109) hC 90 fl_X12_67 rfl rfl (by decide) rfl e844 dX12_sumHere_221 ?_
                            refine pm_aload_n hC 2 (by decide) dX12_sumHere_224 rfl ?_
                            refine pm_getf (v := y841) hC 90 fl_X12_241 rfl rfl (by decide) rfl e842 dX12_sumHere_225 ?_
                            refine pm_iload_n hC 1 dX12_sumHere_228 rfl ?_
                            refine pm_iastore (len := 600) hC 109 rfl rfl (by decide) ⟨by exact ow_67_23 b843, by exact ow_67_40 hmp0 hx762 e778 b779 hLe e839 b840 e842⟩ (by decide) dX12_sumHere_229 ?_
                            refine pm_aload_n hC 2 (by decide) dX12_sumHere_230 rfl ?_
                            refine pm_dup hC rfl dX12_sumHere_231 ?_
                            refine pm_getf (v := y841) hC 90 fl_X12_241 rfl rfl (by decide) rfl e842 dX12_sumHere_232 ?_
                            refine pm_iconst (v := 1) hC dX12_sumHere_235 ?_
                            refine pm_iadd hC dX12_sumHere_236 ?_
                            refine pm_putf hC 90 fl_X12_241 rfl rfl rfl (by decide) rfl trivial dX12_sumHere_237 ?_
                            refine pm_aload_n hC 2 (by decide) dX12_sumHere_240 rfl ?_
                            have hV847 := ((hV827.put 109 (y841 : Int).toNat (x := 4) (lo := (-1)) (hi := 7) rfl ⟨by decide, by decide⟩).put 90 39 (x := (y841 + 1)) (lo := 0) (hi := 600) rfl ⟨by exact ow_67_41 b843, by exact ow_67_42 hmp0 hx762 e778 b779 hLe e839 b840 e842⟩)
                            have hF848 := ((hF830.up 109 (y841 : Int).toNat 4 (by decide) rfl).upf 39 (y841 + 1) rfl)
                            obtain ⟨V845, hv846⟩ : ∃ V, V = (pm_up (pm_up V825 109 (y841 : Int).toNat 4) 90 39 (y841 + 1)) := ⟨_, rfl⟩
                            rw [← hv846] at hV847 hF848
                            rw [← hv846]
                            replace hb766 := hb766.trans (pf_let_eq hv846.symm)
                            have e849 : V845 90 1 = y7 := by rw [hv846]; exact e831
                            have e850 : V845 90 37 = y727 := by rw [hv846]; exact e832
                            have e851 : V845 90 2 = y771 := by rw [hv846]; exact e833
                            have e852 : V845 90 3 = y774 := by rw [hv846]; exact e834
                            have e853 : V845 90 4 = y777 := by rw [hv846]; exact e835
                            have e854 : V845 90 33 = y838 := by rw [hv846]; exact e839
                            have e855 : V845 90 38 = 109 := by rw [hv846]; exact e844
                            have e856 : V845 90 39 = (y841 + 1) := by rw [hv846]; rfl
                            have hp857 : pm_az V845 := by rw [hv846]; exact (pm_az.fr hp836 rfl rfl)
                            have hp858 : pm_tk V845 := by rw [hv846]; exact (pm_tk.fr hp837 rfl rfl rfl)
                            have hS : pm_SX V845 x751 H0 L0 0 := by rw [hv846, ← e842]; exact (pm_push hS (Or.inr ⟨by decide, by decide⟩)).cast (by rw [if_neg (by decide)]; exact ow_67_43) (by rw [if_neg (by decide)]; rfl)
                            refine pm_callV (ci := 12) (as := []) (st := []) hC 90 fP_X12_leads lm_X12_148 li_X12_leads (by decide) (by decide) rfl rfl rfl (by decide) rfl rfl (Nat.le_of_ble_eq_true rfl) ⟨Nat.le_refl _, Or.inl rfl⟩ dX12_sumHere_241 ⟨rfl, hV847, hp857⟩ (fun r859 V860 hp861 => ?_)
                            obtain ⟨rfl, hV862, hF863, hg864, hE865⟩ := hp861
                            replace hb766 := hb766.trans (pf_call_eq hE865)
                            change pm_J X 244 [(2, (0, 1)), (3, (0, 4)), (0, (3, 90)), (1, (0, x751))] [] 118 V860
                            have hF866 := pm_fs.tr hF848 hF863 (by decide) (by decide)
                            have e867 : V860 90 1 = y7 := by rw [hF863.2 1 (by decide)]; exact e849
                            have e868 : V860 90 37 = y727 := by rw [hF863.2 37 (by decide)]; exact e850
                            have e869 : V860 90 33 = y838 := by rw [hF863.2 33 (by decide)]; exact e854
                            have e870 : V860 90 38 = 109 := by rw [hF863.2 38 (by decide)]; exact e855
                            have e871 : V860 90 39 = (y841 + 1) := by rw [hF863.2 39 (by decide)]; exact e856
                            obtain ⟨y872, e873⟩ : ∃ y, V860 90 2 = y := ⟨_, rfl⟩
                            have b874 := hV862.get 90 2 (lo := 0) (hi := 500) (by decide) (by decide) rfl
                            rw [e873] at b874
                            replace hb766 := hb766.trans (pf_let_eq e873)
                            obtain ⟨y875, e876⟩ : ∃ y, V860 90 3 = y := ⟨_, rfl⟩
                            have b877 := hV862.get 90 3 (lo := 0) (hi := 4) (by decide) (by decide) rfl
                            rw [e876] at b877
                            replace hb766 := hb766.trans (pf_let_eq e876)
                            obtain ⟨y878, e879⟩ : ∃ y, V860 90 4 = y := ⟨_, rfl⟩
                            have b880 := hV862.get 90 4 (lo := 0) (hi := 500) (by decide) (by decide) rfl
                            rw [e879] at b880
                            replace hb766 := hb766.trans (pf_let_eq e879)
                            have hpr881 := r_leads_pr hV847 hp857 hE865
                            have htk882 : pm_tk V860 := hpr881.2.2.2.1
                            have hS := hS.fr (hF863.1 107 (by decide) (by decide)) (hF863.1 109 (by decide) (by decide)) (hF863.2 33 (by decide)) (hF863.2 39 (by decide))
                            refine pm_goto (tgt := 9) hC dX12_sumHere_244 (by decide) ?_
                            replace hb104 := hb104.trans (pf_val_inr hb766)
                            replace hb48 := hb48.trans (pf_val_inr hb104)
                            refine pm_lvsub [2, 3, 0] (lv' := [(0, (3, 90)), (1, (0, x751)), (2, (0, 1))]) rfl ?_
                            exact ih52 _ (by (exact ow_67_72 b35 hm50 c68 hx101 e113 c128 b708 e719 b720 hx763 e772 b811 c813 e851 hpr881)) x751 1 V860 ⟨by exact ow_67_30 b752, by exact ow_67_31 b752⟩ ⟨by decide, by decide⟩ hV862 hF866 e867 hg864 htk882 (by (have e : V860 90 2 = y872 := e873); rw [e]; exact ow_67_45 hx763 e772 e775 b776 e851 e873 hpr881) (hS.cast rfl (by exact ow_67_46)) (by rw [(show V860 90 33 = y838 from e869), (show V860 90 39 = (y841 + 1) from e871), (show V860 90 4 = y878 from e879)]; (exact ow_67_47 hx762 e772 htk b811 c813 hLe e839 e842 e851 e879 hpr881)) (by rw [(show V860 90 2 = y872 from e873), (show V860 90 3 = y875 from e876)]; exact ow_67_48) (hT.trans (pf_val_inl hb48)) rfl
                          · skip
                            exfalso; exact ow_67_49 c817
                    · skip
                      replace hb766 := hb766.trans (if_neg c806)
                      refine pm_iconst (v := 3) hC dX12_sumHere_175 ?_
                      refine pm_goto (tgt := 193) hC dX12_sumHere_176 (by decide) ?_
                      refine pm_istore_n (lv' := [(3, (0, 3)), (0, (3, 90)), (1, (0, x751)), (2, (0, x34))]) hC dX12_sumHere_193 (by decide) rfl ?_
                      refine pm_iload_n hC 0 dX12_sumHere_194 rfl ?_
                      refine pm_iconst (v := (-1)) hC dX12_sumHere_195 ?_
                      refine pm_icmp_eq (tgt := 203) hC ⟨by decide, by decide⟩ ⟨by decide, by decide⟩ dX12_sumHere_196 (by decide) (fun c883 => ?_) (fun c883 => ?_)
                      · skip
                        exfalso; exact ow_67_50 c883
                      · skip
                        refine pm_iconst (v := 1) hC dX12_sumHere_199 ?_
                        refine pm_goto (tgt := 204) hC dX12_sumHere_200 (by decide) ?_
                        refine pm_istore_n (lv' := [(2, (0, 1)), (3, (0, 3)), (0, (3, 90)), (1, (0, x751))]) hC dX12_sumHere_204 (by decide) rfl ?_
                        refine pm_iload_n hC 0 dX12_sumHere_205 rfl ?_
                        refine pm_if_ne (tgt := 212) hC ⟨by decide, by decide⟩ dX12_sumHere_206 (by decide) (fun c884 => ?_) (fun c884 => ?_)
                        · skip
                          refine pm_aload_n hC 2 (by decide) dX12_sumHere_212 rfl ?_
                          refine pm_iload_n hC 1 dX12_sumHere_213 rfl ?_
                          refine pm_callS (as := [(0, 3)]) (st := [(3, 90)]) hC (fP_X12_rank 3 ⟨by decide, by decide⟩) lm_X12_244 ls_X12_rank (by decide) (by decide) rfl rfl (Nat.le_of_ble_eq_true rfl) ⟨Nat.le_refl _, Or.inl rfl⟩ dX12_sumHere_214 ⟨rfl, hV754⟩ (fun r885 V886 hp887 => ?_)
                          obtain ⟨y888, rfl, b889, rfl, hE890⟩ := hp887
                          replace hb766 := hb766.trans (pf_call_eq hE890)
                          change pm_J X 217 [(2, (0, 1)), (3, (0, 3)), (0, (3, 90)), (1, (0, x751))] [(0, y888), (3, 90)] 118 V753
                          refine pm_callV (ci := 12) (as := [(0, y888)]) (st := []) hC 90 (fP_X12_empties y888 ⟨by exact ow_67_38 b889, by exact ow_67_39 b889⟩) lm_X12_265 li_X12_empties (by decide) (by decide) rfl rfl rfl (by decide) rfl rfl (Nat.le_of_ble_eq_true rfl) ⟨Nat.le_refl _, Or.inl rfl⟩ dX12_sumHere_217 ⟨rfl, hV754, (show V753 90 33 + V753 90 39 ≤ 600 by exact ow_67_6 hmp0 hx762 e778 b779)⟩ (fun r891 V892 hp893 => ?_)
                          obtain ⟨rfl, hV894, hF895, hE896⟩ := hp893
                          replace hb766 := hb766.trans (pf_call_eq hE896)
                          change pm_J X 220 [(2, (0, 1)), (3, (0, 3)), (0, (3, 90)), (1, (0, x751))] [] 118 V892
                          have hF897 := pm_fs.tr hF755 hF895 (by decide) (by decide)
                          have e898 : V892 90 1 = y7 := by rw [hF895.2 1 (by decide)]; exact e756
                          have e899 : V892 90 37 = y727 := by rw [hF895.2 37 (by decide)]; exact e757
                          have e900 : V892 90 2 = y771 := by rw [hF895.2 2 (by decide)]; exact e772
                          have e901 : V892 90 3 = y774 := by rw [hF895.2 3 (by decide)]; exact e775
                          have e902 : V892 90 4 = y777 := by rw [hF895.2 4 (by decide)]; exact e778
                          have hp903 : pm_az V892 := (pm_az.fr hp758 (hF895.2 1 (by decide)) (hF895.2 2 (by decide)))
                          have hp904 : pm_tk V892 := (pm_tk.fr hp759 (hF895.2 2 (by decide)) (hF895.2 3 (by decide)) (hF895.2 4 (by decide)))
                          obtain ⟨hS, hLe, hTp, hE1, hE2⟩ := pm_sa_empt hS hE896
                          have hPo := hS.pos
                          obtain ⟨y905, e906⟩ : ∃ y, V892 90 33 = y := ⟨_, rfl⟩
                          have b907 := hV894.get 90 33 (lo := 0) (hi := 600) (by decide) (by decide) rfl
                          rw [e906] at b907
                          replace hb766 := hb766.trans (pf_let_eq e906)
                          obtain ⟨y908, e909⟩ : ∃ y, V892 90 39 = y := ⟨_, rfl⟩
                          have b910 := hV894.get 90 39 (lo := 0) (hi := 600) (by decide) (by decide) rfl
                          rw [e909] at b910
                          replace hb766 := hb766.trans (pf_let_eq e909)
                          clear hE1 hE2
                          refine pm_aload_n hC 2 (by decide) dX12_sumHere_220 rfl ?_
                          have e911 : V892 90 38 = 109 := hV894.one 90 38 (by decide) (by decide) rfl
                          refine pm_getf (v := 109) hC 90 fl_X12_67 rfl rfl (by decide) rfl e911 dX12_sumHere_221 ?_
                          refine pm_aload_n hC 2 (by decide) dX12_sumHere_224 rfl ?_
                          refine pm_getf (v := y908) hC 90 fl_X12_241 rfl rfl (by decide) rfl e909 dX12_sumHere_225 ?_
                          refine pm_iload_n hC 1 dX12_sumHere_228 rfl ?_
                          refine pm_iastore (len := 600) hC 109 rfl rfl (by decide) ⟨by exact ow_67_23 b910, by exact ow_67_40 hmp0 hx762 e778 b779 hLe e906 b907 e909⟩ (by decide) dX12_sumHere_229 ?_
                          refine pm_aload_n hC 2 (by decide) dX12_sumHere_230 rfl ?_
                          refine pm_dup hC rfl dX12_sumHere_231 ?_
                          refine pm_getf (v := y908) hC 90 fl_X12_241 rfl rfl (by decide) rfl e909 dX12_sumHere_232 ?_
                          refine pm_iconst (v := 1) hC dX12_sumHere_235 ?_
                          refine pm_iadd hC dX12_sumHere_236 ?_
                          refine pm_putf hC 90 fl_X12_241 rfl rfl rfl (by decide) rfl trivial dX12_sumHere_237 ?_
                          refine pm_aload_n hC 2 (by decide) dX12_sumHere_240 rfl ?_
                          have hV914 := ((hV894.put 109 (y908 : Int).toNat (x := 3) (lo := (-1)) (hi := 7) rfl ⟨by decide, by decide⟩).put 90 39 (x := (y908 + 1)) (lo := 0) (hi := 600) rfl ⟨by exact ow_67_41 b910, by exact ow_67_42 hmp0 hx762 e778 b779 hLe e906 b907 e909⟩)
                          have hF915 := ((hF897.up 109 (y908 : Int).toNat 3 (by decide) rfl).upf 39 (y908 + 1) rfl)
                          obtain ⟨V912, hv913⟩ : ∃ V, V = (pm_up (pm_up V892 109 (y908 : Int).toNat 3) 90 39 (y908 + 1)) := ⟨_, rfl⟩
                          rw [← hv913] at hV914 hF915
                          rw [← hv913]
                          replace hb766 := hb766.trans (pf_let_eq hv913.symm)
                          have e916 : V912 90 1 = y7 := by rw [hv913]; exact e898
                          have e917 : V912 90 37 = y727 := by rw [hv913]; exact e899
                          have e918 : V912 90 2 = y771 := by rw [hv913]; exact e900
                          have e919 : V912 90 3 = y774 := by rw [hv913]; exact e901
                          have e920 : V912 90 4 = y777 := by rw [hv913]; exact e902
                          have e921 : V912 90 33 = y905 := by rw [hv913]; exact e906
                          have e922 : V912 90 38 = 109 := by rw [hv913]; exact e911
                          have e923 : V912 90 39 = (y908 + 1) := by rw [hv913]; rfl
                          have hp924 : pm_az V912 := by rw [hv913]; exact (pm_az.fr hp903 rfl rfl)
                          have hp925 : pm_tk V912 := by rw [hv913]; exact (pm_tk.fr hp904 rfl rfl rfl)
                          have hS : pm_SX V912 x751 H0 L0 0 := by rw [hv913, ← e909]; exact (pm_push hS (Or.inr ⟨by decide, by decide⟩)).cast (by rw [if_neg (by decide)]; exact ow_67_43) (by rw [if_neg (by decide)]; rfl)
                          refine pm_callV (ci := 12) (as := []) (st := []) hC 90 fP_X12_leads lm_X12_148 li_X12_leads (by decide) (by decide) rfl rfl rfl (by decide) rfl rfl (Nat.le_of_ble_eq_true rfl) ⟨Nat.le_refl _, Or.inl rfl⟩ dX12_sumHere_241 ⟨rfl, hV914, hp924⟩ (fun r926 V927 hp928 => ?_)
                          obtain ⟨rfl, hV929, hF930, hg931, hE932⟩ := hp928
                          replace hb766 := hb766.trans (pf_call_eq hE932)
                          change pm_J X 244 [(2, (0, 1)), (3, (0, 3)), (0, (3, 90)), (1, (0, x751))] [] 118 V927
                          have hF933 := pm_fs.tr hF915 hF930 (by decide) (by decide)
                          have e934 : V927 90 1 = y7 := by rw [hF930.2 1 (by decide)]; exact e916
                          have e935 : V927 90 37 = y727 := by rw [hF930.2 37 (by decide)]; exact e917
                          have e936 : V927 90 33 = y905 := by rw [hF930.2 33 (by decide)]; exact e921
                          have e937 : V927 90 38 = 109 := by rw [hF930.2 38 (by decide)]; exact e922
                          have e938 : V927 90 39 = (y908 + 1) := by rw [hF930.2 39 (by decide)]; exact e923
                          obtain ⟨y939, e940⟩ : ∃ y, V927 90 2 = y := ⟨_, rfl⟩
                          have b941 := hV929.get 90 2 (lo := 0) (hi := 500) (by decide) (by decide) rfl
                          rw [e940] at b941
                          replace hb766 := hb766.trans (pf_let_eq e940)
                          obtain ⟨y942, e943⟩ : ∃ y, V927 90 3 = y := ⟨_, rfl⟩
                          have b944 := hV929.get 90 3 (lo := 0) (hi := 4) (by decide) (by decide) rfl
                          rw [e943] at b944
                          replace hb766 := hb766.trans (pf_let_eq e943)
                          obtain ⟨y945, e946⟩ : ∃ y, V927 90 4 = y := ⟨_, rfl⟩
                          have b947 := hV929.get 90 4 (lo := 0) (hi := 500) (by decide) (by decide) rfl
                          rw [e946] at b947
                          replace hb766 := hb766.trans (pf_let_eq e946)
                          have hpr948 := r_leads_pr hV914 hp924 hE932
                          have htk949 : pm_tk V927 := hpr948.2.2.2.1
                          have hS := hS.fr (hF930.1 107 (by decide) (by decide)) (hF930.1 109 (by decide) (by decide)) (hF930.2 33 (by decide)) (hF930.2 39 (by decide))
                          refine pm_goto (tgt := 9) hC dX12_sumHere_244 (by decide) ?_
                          replace hb104 := hb104.trans (pf_val_inr hb766)
                          replace hb48 := hb48.trans (pf_val_inr hb104)
                          refine pm_lvsub [2, 3, 0] (lv' := [(0, (3, 90)), (1, (0, x751)), (2, (0, 1))]) rfl ?_
                          exact ih52 _ (by (exact ow_67_72 b35 hm50 c68 hx101 e113 c128 b708 e719 b720 hx763 e772 b804 c806 e918 hpr948)) x751 1 V927 ⟨by exact ow_67_30 b752, by exact ow_67_31 b752⟩ ⟨by decide, by decide⟩ hV929 hF933 e934 hg931 htk949 (by (have e : V927 90 2 = y939 := e940); rw [e]; (exact ow_67_45 hx763 e772 e775 b776 e918 e940 hpr948)) (hS.cast rfl (by exact ow_67_46)) (by rw [(show V927 90 33 = y905 from e936), (show V927 90 39 = (y908 + 1) from e938), (show V927 90 4 = y945 from e946)]; (exact ow_67_47 hx762 e772 htk b804 c806 hLe e906 e909 e918 e946 hpr948)) (by rw [(show V927 90 2 = y939 from e940), (show V927 90 3 = y942 from e943)]; exact ow_67_48) (hT.trans (pf_val_inl hb48)) rfl
                        · skip
                          exfalso; exact ow_67_49 c884
                  · skip
                    replace hb766 := hb766.trans (if_neg c799)
                    refine pm_iconst (v := 2) hC dX12_sumHere_162 ?_
                    refine pm_goto (tgt := 193) hC dX12_sumHere_163 (by decide) ?_
                    refine pm_istore_n (lv' := [(3, (0, 2)), (0, (3, 90)), (1, (0, x751)), (2, (0, x34))]) hC dX12_sumHere_193 (by decide) rfl ?_
                    refine pm_iload_n hC 0 dX12_sumHere_194 rfl ?_
                    refine pm_iconst (v := (-1)) hC dX12_sumHere_195 ?_
                    refine pm_icmp_eq (tgt := 203) hC ⟨by decide, by decide⟩ ⟨by decide, by decide⟩ dX12_sumHere_196 (by decide) (fun c950 => ?_) (fun c950 => ?_)
                    · skip
                      exfalso; exact ow_67_51 c950
                    · skip
                      refine pm_iconst (v := 1) hC dX12_sumHere_199 ?_
                      refine pm_goto (tgt := 204) hC dX12_sumHere_200 (by decide) ?_
                      refine pm_istore_n (lv' := [(2, (0, 1)), (3, (0, 2)), (0, (3, 90)), (1, (0, x751))]) hC dX12_sumHere_204 (by decide) rfl ?_
                      refine pm_iload_n hC 0 dX12_sumHere_205 rfl ?_
                      refine pm_if_ne (tgt := 212) hC ⟨by decide, by decide⟩ dX12_sumHere_206 (by decide) (fun c951 => ?_) (fun c951 => ?_)
                      · skip
                        refine pm_aload_n hC 2 (by decide) dX12_sumHere_212 rfl ?_
                        refine pm_iload_n hC 1 dX12_sumHere_213 rfl ?_
                        refine pm_callS (as := [(0, 2)]) (st := [(3, 90)]) hC (fP_X12_rank 2 ⟨by decide, by decide⟩) lm_X12_244 ls_X12_rank (by decide) (by decide) rfl rfl (Nat.le_of_ble_eq_true rfl) ⟨Nat.le_refl _, Or.inl rfl⟩ dX12_sumHere_214 ⟨rfl, hV754⟩ (fun r952 V953 hp954 => ?_)
                        obtain ⟨y955, rfl, b956, rfl, hE957⟩ := hp954
                        replace hb766 := hb766.trans (pf_call_eq hE957)
                        change pm_J X 217 [(2, (0, 1)), (3, (0, 2)), (0, (3, 90)), (1, (0, x751))] [(0, y955), (3, 90)] 118 V753
                        refine pm_callV (ci := 12) (as := [(0, y955)]) (st := []) hC 90 (fP_X12_empties y955 ⟨by exact ow_67_38 b956, by exact ow_67_39 b956⟩) lm_X12_265 li_X12_empties (by decide) (by decide) rfl rfl rfl (by decide) rfl rfl (Nat.le_of_ble_eq_true rfl) ⟨Nat.le_refl _, Or.inl rfl⟩ dX12_sumHere_217 ⟨rfl, hV754, (show V753 90 33 + V753 90 39 ≤ 600 by exact ow_67_6 hmp0 hx762 e778 b779)⟩ (fun r958 V959 hp960 => ?_)
                        obtain ⟨rfl, hV961, hF962, hE963⟩ := hp960
                        replace hb766 := hb766.trans (pf_call_eq hE963)
                        change pm_J X 220 [(2, (0, 1)), (3, (0, 2)), (0, (3, 90)), (1, (0, x751))] [] 118 V959
                        have hF964 := pm_fs.tr hF755 hF962 (by decide) (by decide)
                        have e965 : V959 90 1 = y7 := by rw [hF962.2 1 (by decide)]; exact e756
                        have e966 : V959 90 37 = y727 := by rw [hF962.2 37 (by decide)]; exact e757
                        have e967 : V959 90 2 = y771 := by rw [hF962.2 2 (by decide)]; exact e772
                        have e968 : V959 90 3 = y774 := by rw [hF962.2 3 (by decide)]; exact e775
                        have e969 : V959 90 4 = y777 := by rw [hF962.2 4 (by decide)]; exact e778
                        have hp970 : pm_az V959 := (pm_az.fr hp758 (hF962.2 1 (by decide)) (hF962.2 2 (by decide)))
                        have hp971 : pm_tk V959 := (pm_tk.fr hp759 (hF962.2 2 (by decide)) (hF962.2 3 (by decide)) (hF962.2 4 (by decide)))
                        obtain ⟨hS, hLe, hTp, hE1, hE2⟩ := pm_sa_empt hS hE963
                        have hPo := hS.pos
                        obtain ⟨y972, e973⟩ : ∃ y, V959 90 33 = y := ⟨_, rfl⟩
                        have b974 := hV961.get 90 33 (lo := 0) (hi := 600) (by decide) (by decide) rfl
                        rw [e973] at b974
                        replace hb766 := hb766.trans (pf_let_eq e973)
                        obtain ⟨y975, e976⟩ : ∃ y, V959 90 39 = y := ⟨_, rfl⟩
                        have b977 := hV961.get 90 39 (lo := 0) (hi := 600) (by decide) (by decide) rfl
                        rw [e976] at b977
                        replace hb766 := hb766.trans (pf_let_eq e976)
                        clear hE1 hE2
                        refine pm_aload_n hC 2 (by decide) dX12_sumHere_220 rfl ?_
                        have e978 : V959 90 38 = 109 := hV961.one 90 38 (by decide) (by decide) rfl
                        refine pm_getf (v := 109) hC 90 fl_X12_67 rfl rfl (by decide) rfl e978 dX12_sumHere_221 ?_
                        refine pm_aload_n hC 2 (by decide) dX12_sumHere_224 rfl ?_
                        refine pm_getf (v := y975) hC 90 fl_X12_241 rfl rfl (by decide) rfl e976 dX12_sumHere_225 ?_
                        refine pm_iload_n hC 1 dX12_sumHere_228 rfl ?_
                        refine pm_iastore (len := 600) hC 109 rfl rfl (by decide) ⟨by exact ow_67_23 b977, by exact ow_67_40 hmp0 hx762 e778 b779 hLe e973 b974 e976⟩ (by decide) dX12_sumHere_229 ?_
                        refine pm_aload_n hC 2 (by decide) dX12_sumHere_230 rfl ?_
                        refine pm_dup hC rfl dX12_sumHere_231 ?_
                        refine pm_getf (v := y975) hC 90 fl_X12_241 rfl rfl (by decide) rfl e976 dX12_sumHere_232 ?_
                        refine pm_iconst (v := 1) hC dX12_sumHere_235 ?_
                        refine pm_iadd hC dX12_sumHere_236 ?_
                        refine pm_putf hC 90 fl_X12_241 rfl rfl rfl (by decide) rfl trivial dX12_sumHere_237 ?_
                        refine pm_aload_n hC 2 (by decide) dX12_sumHere_240 rfl ?_
                        have hV981 := ((hV961.put 109 (y975 : Int).toNat (x := 2) (lo := (-1)) (hi := 7) rfl ⟨by decide, by decide⟩).put 90 39 (x := (y975 + 1)) (lo := 0) (hi := 600) rfl ⟨by exact ow_67_41 b977, by exact ow_67_42 hmp0 hx762 e778 b779 hLe e973 b974 e976⟩)
                        have hF982 := ((hF964.up 109 (y975 : Int).toNat 2 (by decide) rfl).upf 39 (y975 + 1) rfl)
                        obtain ⟨V979, hv980⟩ : ∃ V, V = (pm_up (pm_up V959 109 (y975 : Int).toNat 2) 90 39 (y975 + 1)) := ⟨_, rfl⟩
                        rw [← hv980] at hV981 hF982
                        rw [← hv980]
                        replace hb766 := hb766.trans (pf_let_eq hv980.symm)
                        have e983 : V979 90 1 = y7 := by rw [hv980]; exact e965
                        have e984 : V979 90 37 = y727 := by rw [hv980]; exact e966
                        have e985 : V979 90 2 = y771 := by rw [hv980]; exact e967
                        have e986 : V979 90 3 = y774 := by rw [hv980]; exact e968
                        have e987 : V979 90 4 = y777 := by rw [hv980]; exact e969
                        have e988 : V979 90 33 = y972 := by rw [hv980]; exact e973
                        have e989 : V979 90 38 = 109 := by rw [hv980]; exact e978
                        have e990 : V979 90 39 = (y975 + 1) := by rw [hv980]; rfl
                        have hp991 : pm_az V979 := by rw [hv980]; exact (pm_az.fr hp970 rfl rfl)
                        have hp992 : pm_tk V979 := by rw [hv980]; exact (pm_tk.fr hp971 rfl rfl rfl)
                        have hS : pm_SX V979 x751 H0 L0 0 := by rw [hv980, ← e976]; exact (pm_push hS (Or.inr ⟨by decide, by decide⟩)).cast (by rw [if_neg (by decide)]; exact ow_67_43) (by rw [if_neg (by decide)]; rfl)
                        refine pm_callV (ci := 12) (as := []) (st := []) hC 90 fP_X12_leads lm_X12_148 li_X12_leads (by decide) (by decide) rfl rfl rfl (by decide) rfl rfl (Nat.le_of_ble_eq_true rfl) ⟨Nat.le_refl _, Or.inl rfl⟩ dX12_sumHere_241 ⟨rfl, hV981, hp991⟩ (fun r993 V994 hp995 => ?_)
                        obtain ⟨rfl, hV996, hF997, hg998, hE999⟩ := hp995
                        replace hb766 := hb766.trans (pf_call_eq hE999)
                        change pm_J X 244 [(2, (0, 1)), (3, (0, 2)), (0, (3, 90)), (1, (0, x751))] [] 118 V994
                        have hF1000 := pm_fs.tr hF982 hF997 (by decide) (by decide)
                        have e1001 : V994 90 1 = y7 := by rw [hF997.2 1 (by decide)]; exact e983
                        have e1002 : V994 90 37 = y727 := by rw [hF997.2 37 (by decide)]; exact e984
                        have e1003 : V994 90 33 = y972 := by rw [hF997.2 33 (by decide)]; exact e988
                        have e1004 : V994 90 38 = 109 := by rw [hF997.2 38 (by decide)]; exact e989
                        have e1005 : V994 90 39 = (y975 + 1) := by rw [hF997.2 39 (by decide)]; exact e990
                        obtain ⟨y1006, e1007⟩ : ∃ y, V994 90 2 = y := ⟨_, rfl⟩
                        have b1008 := hV996.get 90 2 (lo := 0) (hi := 500) (by decide) (by decide) rfl
                        rw [e1007] at b1008
                        replace hb766 := hb766.trans (pf_let_eq e1007)
                        obtain ⟨y1009, e1010⟩ : ∃ y, V994 90 3 = y := ⟨_, rfl⟩
                        have b1011 := hV996.get 90 3 (lo := 0) (hi := 4) (by decide) (by decide) rfl
                        rw [e1010] at b1011
                        replace hb766 := hb766.trans (pf_let_eq e1010)
                        obtain ⟨y1012, e1013⟩ : ∃ y, V994 90 4 = y := ⟨_, rfl⟩
                        have b1014 := hV996.get 90 4 (lo := 0) (hi := 500) (by decide) (by decide) rfl
                        rw [e1013] at b1014
                        replace hb766 := hb766.trans (pf_let_eq e1013)
                        have hpr1015 := r_leads_pr hV981 hp991 hE999
                        have htk1016 : pm_tk V994 := hpr1015.2.2.2.1
                        have hS := hS.fr (hF997.1 107 (by decide) (by decide)) (hF997.1 109 (by decide) (by decide)) (hF997.2 33 (by decide)) (hF997.2 39 (by decide))
                        refine pm_goto (tgt := 9) hC dX12_sumHere_244 (by decide) ?_
                        replace hb104 := hb104.trans (pf_val_inr hb766)
                        replace hb48 := hb48.trans (pf_val_inr hb104)
                        refine pm_lvsub [2, 3, 0] (lv' := [(0, (3, 90)), (1, (0, x751)), (2, (0, 1))]) rfl ?_
                        exact ih52 _ (by (exact ow_67_72 b35 hm50 c68 hx101 e113 c128 b708 e719 b720 hx763 e772 b797 c799 e985 hpr1015)) x751 1 V994 ⟨by exact ow_67_30 b752, by exact ow_67_31 b752⟩ ⟨by decide, by decide⟩ hV996 hF1000 e1001 hg998 htk1016 (by (have e : V994 90 2 = y1006 := e1007); rw [e]; exact ow_67_45 hx763 e772 e775 b776 e985 e1007 hpr1015) (hS.cast rfl (by exact ow_67_46)) (by rw [(show V994 90 33 = y972 from e1003), (show V994 90 39 = (y975 + 1) from e1005), (show V994 90 4 = y1012 from e1013)]; (exact ow_67_47 hx762 e772 htk b797 c799 hLe e973 e976 e985 e1013 hpr1015)) (by rw [(show V994 90 2 = y1006 from e1007), (show V994 90 3 = y1009 from e1010)]; exact ow_67_48) (hT.trans (pf_val_inl hb48)) rfl
                      · skip
                        exfalso; exact ow_67_49 c951
                · skip
                  replace hb766 := hb766.trans (if_neg c792)
                  refine pm_iload_n hC 1 dX12_sumHere_124 rfl ?_
                  refine pm_if_le (tgt := 153) hC ⟨by exact ow_67_2 b752, by exact ow_67_3 b752⟩ dX12_sumHere_125 (by decide) (fun c1017 => ?_) (fun c1017 => ?_)
                  · skip
                    replace hb766 := hb766.trans (if_pos c1017)
                    refine pm_aload_n hC 0 (by decide) dX12_sumHere_153 rfl ?_
                    refine pm_bipush (v := 43) hC dX12_sumHere_154 (by decide) ?_
                    refine pm_callV (ci := 12) (as := [(0, 43)]) (st := []) hC 90 (fP_X12_isSign 43 ⟨by decide, by decide⟩) lm_X12_145 li_X12_isSign (by decide) (by decide) rfl rfl rfl (by decide) rfl rfl (Nat.le_of_ble_eq_true rfl) ⟨Nat.le_refl _, Or.inl rfl⟩ dX12_sumHere_156 ⟨rfl, hV754⟩ (fun r1018 V1019 hp1020 => ?_)
                    obtain ⟨y1021, rfl, b1022, rfl, hE1023⟩ := hp1020
                    replace hb766 := hb766.trans (pf_call_eq hE1023)
                    change pm_J X 159 [(0, (3, 90)), (1, (0, x751)), (2, (0, x34))] [(0, y1021)] 118 V753
                    refine pm_if_eq (tgt := 166) hC ⟨by exact ow_67_17 b1022, by exact ow_67_18 b1022⟩ dX12_sumHere_159 (by decide) (fun c1024 => ?_) (fun c1024 => ?_)
                    · skip
                      replace hb766 := hb766.trans (if_pos c1024)
                      refine pm_aload_n hC 0 (by decide) dX12_sumHere_166 rfl ?_
                      refine pm_bipush (v := 45) hC dX12_sumHere_167 (by decide) ?_
                      refine pm_callV (ci := 12) (as := [(0, 45)]) (st := []) hC 90 (fP_X12_isSign 45 ⟨by decide, by decide⟩) lm_X12_145 li_X12_isSign (by decide) (by decide) rfl rfl rfl (by decide) rfl rfl (Nat.le_of_ble_eq_true rfl) ⟨Nat.le_refl _, Or.inl rfl⟩ dX12_sumHere_169 ⟨rfl, hV754⟩ (fun r1025 V1026 hp1027 => ?_)
                      obtain ⟨y1028, rfl, b1029, rfl, hE1030⟩ := hp1027
                      replace hb766 := hb766.trans (pf_call_eq hE1030)
                      change pm_J X 172 [(0, (3, 90)), (1, (0, x751)), (2, (0, x34))] [(0, y1028)] 118 V753
                      refine pm_if_eq (tgt := 179) hC ⟨by exact ow_67_17 b1029, by exact ow_67_18 b1029⟩ dX12_sumHere_172 (by decide) (fun c1031 => ?_) (fun c1031 => ?_)
                      · skip
                        replace hb766 := hb766.trans (if_pos c1031)
                        refine pm_aload_n hC 0 (by decide) dX12_sumHere_179 rfl ?_
                        refine pm_bipush (v := 42) hC dX12_sumHere_180 (by decide) ?_
                        refine pm_callV (ci := 12) (as := [(0, 42)]) (st := []) hC 90 (fP_X12_isSign 42 ⟨by decide, by decide⟩) lm_X12_145 li_X12_isSign (by decide) (by decide) rfl rfl rfl (by decide) rfl rfl (Nat.le_of_ble_eq_true rfl) ⟨Nat.le_refl _, Or.inl rfl⟩ dX12_sumHere_182 ⟨rfl, hV754⟩ (fun r1032 V1033 hp1034 => ?_)
                        obtain ⟨y1035, rfl, b1036, rfl, hE1037⟩ := hp1034
                        replace hb766 := hb766.trans (pf_call_eq hE1037)
                        change pm_J X 185 [(0, (3, 90)), (1, (0, x751)), (2, (0, x34))] [(0, y1035)] 118 V753
                        refine pm_if_eq (tgt := 192) hC ⟨by exact ow_67_17 b1036, by exact ow_67_18 b1036⟩ dX12_sumHere_185 (by decide) (fun c1038 => ?_) (fun c1038 => ?_)
                        · skip
                          replace hb766 := hb766.trans (if_pos c1038)
                          refine pm_iconst (v := (-1)) hC dX12_sumHere_192 ?_
                          refine pm_istore_n (lv' := [(3, (0, (-1))), (0, (3, 90)), (1, (0, x751)), (2, (0, x34))]) hC dX12_sumHere_193 (by decide) rfl ?_
                          refine pm_iload_n hC 0 dX12_sumHere_194 rfl ?_
                          refine pm_iconst (v := (-1)) hC dX12_sumHere_195 ?_
                          refine pm_icmp_eq (tgt := 203) hC ⟨by decide, by decide⟩ ⟨by decide, by decide⟩ dX12_sumHere_196 (by decide) (fun c1039 => ?_) (fun c1039 => ?_)
                          · skip
                            refine pm_iconst (v := 0) hC dX12_sumHere_203 ?_
                            refine pm_istore_n (lv' := [(2, (0, 0)), (3, (0, (-1))), (0, (3, 90)), (1, (0, x751))]) hC dX12_sumHere_204 (by decide) rfl ?_
                            refine pm_iload_n hC 0 dX12_sumHere_205 rfl ?_
                            refine pm_if_ne (tgt := 212) hC ⟨by decide, by decide⟩ dX12_sumHere_206 (by decide) (fun c1040 => ?_) (fun c1040 => ?_)
                            · skip
                              exfalso; exact ow_67_28 c1040
                            · skip
                              refine pm_goto (tgt := 9) hC dX12_sumHere_209 (by decide) ?_
                              replace hb104 := hb104.trans (pf_val_inr hb766)
                              replace hb48 := hb48.trans (pf_val_inr hb104)
                              refine pm_lvsub [2, 3, 0] (lv' := [(0, (3, 90)), (1, (0, x751)), (2, (0, 0))]) rfl ?_
                              exact ih52 _ (by (exact ow_67_71 b35 hm50 hx101 e113 c128 b708 e719 b720 hx763)) x751 0 V753 ⟨by exact ow_67_30 b752, by exact ow_67_53 c1017⟩ ⟨by decide, by decide⟩ hV754 hF755 e756 hp758 hp759 (by (have e : V753 90 2 = y771 := e772); rw [e]; exact ow_67_32 hx763 e772 e775 b776) (hS.cast rfl (by exact ow_67_33)) (by rw [(show V753 90 33 = y780 from e781), (show V753 90 39 = y783 from e784), (show V753 90 4 = y777 from e778)]; exact ow_67_34 hx762 e778 e781 e784) (by rw [(show V753 90 2 = y771 from e772), (show V753 90 3 = y774 from e775)]; exact ow_67_35 hx763 e772 e775) (hT.trans (pf_val_inl hb48)) rfl
                          · skip
                            exfalso; exact ow_67_36 c1039
                        · skip
                          replace hb766 := hb766.trans (if_neg c1038)
                          refine pm_iconst (v := 4) hC dX12_sumHere_188 ?_
                          refine pm_goto (tgt := 193) hC dX12_sumHere_189 (by decide) ?_
                          refine pm_istore_n (lv' := [(3, (0, 4)), (0, (3, 90)), (1, (0, x751)), (2, (0, x34))]) hC dX12_sumHere_193 (by decide) rfl ?_
                          refine pm_iload_n hC 0 dX12_sumHere_194 rfl ?_
                          refine pm_iconst (v := (-1)) hC dX12_sumHere_195 ?_
                          refine pm_icmp_eq (tgt := 203) hC ⟨by decide, by decide⟩ ⟨by decide, by decide⟩ dX12_sumHere_196 (by decide) (fun c1041 => ?_) (fun c1041 => ?_)
                          · skip
                            exfalso; exact ow_67_37 c1041
                          · skip
                            refine pm_iconst (v := 1) hC dX12_sumHere_199 ?_
                            refine pm_goto (tgt := 204) hC dX12_sumHere_200 (by decide) ?_
                            refine pm_istore_n (lv' := [(2, (0, 1)), (3, (0, 4)), (0, (3, 90)), (1, (0, x751))]) hC dX12_sumHere_204 (by decide) rfl ?_
                            refine pm_iload_n hC 0 dX12_sumHere_205 rfl ?_
                            refine pm_if_ne (tgt := 212) hC ⟨by decide, by decide⟩ dX12_sumHere_206 (by decide) (fun c1042 => ?_) (fun c1042 => ?_)
                            · skip
                              refine pm_aload_n hC 2 (by decide) dX12_sumHere_212 rfl ?_
                              refine pm_iload_n hC 1 dX12_sumHere_213 rfl ?_
                              refine pm_callS (as := [(0, 4)]) (st := [(3, 90)]) hC (fP_X12_rank 4 ⟨by decide, by decide⟩) lm_X12_244 ls_X12_rank (by decide) (by decide) rfl rfl (Nat.le_of_ble_eq_true rfl) ⟨Nat.le_refl _, Or.inl rfl⟩ dX12_sumHere_214 ⟨rfl, hV754⟩ (fun r1043 V1044 hp1045 => ?_)
                              obtain ⟨y1046, rfl, b1047, rfl, hE1048⟩ := hp1045
                              replace hb766 := hb766.trans (pf_call_eq hE1048)
                              change pm_J X 217 [(2, (0, 1)), (3, (0, 4)), (0, (3, 90)), (1, (0, x751))] [(0, y1046), (3, 90)] 118 V753
                              refine pm_callV (ci := 12) (as := [(0, y1046)]) (st := []) hC 90 (fP_X12_empties y1046 ⟨by exact ow_67_38 b1047, by exact ow_67_39 b1047⟩) lm_X12_265 li_X12_empties (by decide) (by decide) rfl rfl rfl (by decide) rfl rfl (Nat.le_of_ble_eq_true rfl) ⟨Nat.le_refl _, Or.inl rfl⟩ dX12_sumHere_217 ⟨rfl, hV754, (show V753 90 33 + V753 90 39 ≤ 600 by exact ow_67_6 hmp0 hx762 e778 b779)⟩ (fun r1049 V1050 hp1051 => ?_)
                              obtain ⟨rfl, hV1052, hF1053, hE1054⟩ := hp1051
                              replace hb766 := hb766.trans (pf_call_eq hE1054)
                              change pm_J X 220 [(2, (0, 1)), (3, (0, 4)), (0, (3, 90)), (1, (0, x751))] [] 118 V1050
                              have hF1055 := pm_fs.tr hF755 hF1053 (by decide) (by decide)
                              have e1056 : V1050 90 1 = y7 := by rw [hF1053.2 1 (by decide)]; exact e756
                              have e1057 : V1050 90 37 = y727 := by rw [hF1053.2 37 (by decide)]; exact e757
                              have e1058 : V1050 90 2 = y771 := by rw [hF1053.2 2 (by decide)]; exact e772
                              have e1059 : V1050 90 3 = y774 := by rw [hF1053.2 3 (by decide)]; exact e775
                              have e1060 : V1050 90 4 = y777 := by rw [hF1053.2 4 (by decide)]; exact e778
                              have hp1061 : pm_az V1050 := (pm_az.fr hp758 (hF1053.2 1 (by decide)) (hF1053.2 2 (by decide)))
                              have hp1062 : pm_tk V1050 := (pm_tk.fr hp759 (hF1053.2 2 (by decide)) (hF1053.2 3 (by decide)) (hF1053.2 4 (by decide)))
                              obtain ⟨hS, hLe, hTp, hE1, hE2⟩ := pm_sa_empt hS hE1054
                              have hPo := hS.pos
                              obtain ⟨y1063, e1064⟩ : ∃ y, V1050 90 33 = y := ⟨_, rfl⟩
                              have b1065 := hV1052.get 90 33 (lo := 0) (hi := 600) (by decide) (by decide) rfl
                              rw [e1064] at b1065
                              replace hb766 := hb766.trans (pf_let_eq e1064)
                              obtain ⟨y1066, e1067⟩ : ∃ y, V1050 90 39 = y := ⟨_, rfl⟩
                              have b1068 := hV1052.get 90 39 (lo := 0) (hi := 600) (by decide) (by decide) rfl
                              rw [e1067] at b1068
                              replace hb766 := hb766.trans (pf_let_eq e1067)
                              clear hE1 hE2
                              refine pm_aload_n hC 2 (by decide) dX12_sumHere_220 rfl ?_
                              have e1069 : V1050 90 38 = 109 := hV1052.one 90 38 (by decide) (by decide) rfl
                              refine pm_getf (v := 109) hC 90 fl_X12_67 rfl rfl (by decide) rfl e1069 dX12_sumHere_221 ?_
                              refine pm_aload_n hC 2 (by decide) dX12_sumHere_224 rfl ?_
                              refine pm_getf (v := y1066) hC 90 fl_X12_241 rfl rfl (by decide) rfl e1067 dX12_sumHere_225 ?_
                              refine pm_iload_n hC 1 dX12_sumHere_228 rfl ?_
                              refine pm_iastore (len := 600) hC 109 rfl rfl (by decide) ⟨by exact ow_67_23 b1068, by exact ow_67_40 hmp0 hx762 e778 b779 hLe e1064 b1065 e1067⟩ (by decide) dX12_sumHere_229 ?_
                              refine pm_aload_n hC 2 (by decide) dX12_sumHere_230 rfl ?_
                              refine pm_dup hC rfl dX12_sumHere_231 ?_
                              refine pm_getf (v := y1066) hC 90 fl_X12_241 rfl rfl (by decide) rfl e1067 dX12_sumHere_232 ?_
                              refine pm_iconst (v := 1) hC dX12_sumHere_235 ?_
                              refine pm_iadd hC dX12_sumHere_236 ?_
                              refine pm_putf hC 90 fl_X12_241 rfl rfl rfl (by decide) rfl trivial dX12_sumHere_237 ?_
                              refine pm_aload_n hC 2 (by decide) dX12_sumHere_240 rfl ?_
                              have hV1072 := ((hV1052.put 109 (y1066 : Int).toNat (x := 4) (lo := (-1)) (hi := 7) rfl ⟨by decide, by decide⟩).put 90 39 (x := (y1066 + 1)) (lo := 0) (hi := 600) rfl ⟨by exact ow_67_41 b1068, by exact ow_67_42 hmp0 hx762 e778 b779 hLe e1064 b1065 e1067⟩)
                              have hF1073 := ((hF1055.up 109 (y1066 : Int).toNat 4 (by decide) rfl).upf 39 (y1066 + 1) rfl)
                              obtain ⟨V1070, hv1071⟩ : ∃ V, V = (pm_up (pm_up V1050 109 (y1066 : Int).toNat 4) 90 39 (y1066 + 1)) := ⟨_, rfl⟩
                              rw [← hv1071] at hV1072 hF1073
                              rw [← hv1071]
                              replace hb766 := hb766.trans (pf_let_eq hv1071.symm)
                              have e1074 : V1070 90 1 = y7 := by rw [hv1071]; exact e1056
                              have e1075 : V1070 90 37 = y727 := by rw [hv1071]; exact e1057
                              have e1076 : V1070 90 2 = y771 := by rw [hv1071]; exact e1058
                              have e1077 : V1070 90 3 = y774 := by rw [hv1071]; exact e1059
                              have e1078 : V1070 90 4 = y777 := by rw [hv1071]; exact e1060
                              have e1079 : V1070 90 33 = y1063 := by rw [hv1071]; exact e1064
                              have e1080 : V1070 90 38 = 109 := by rw [hv1071]; exact e1069
                              have e1081 : V1070 90 39 = (y1066 + 1) := by rw [hv1071]; rfl
                              have hp1082 : pm_az V1070 := by rw [hv1071]; exact (pm_az.fr hp1061 rfl rfl)
                              have hp1083 : pm_tk V1070 := by rw [hv1071]; exact (pm_tk.fr hp1062 rfl rfl rfl)
                              have hS : pm_SX V1070 x751 H0 L0 0 := by rw [hv1071, ← e1067]; exact (pm_push hS (Or.inr ⟨by decide, by decide⟩)).cast (by rw [if_neg (by decide)]; exact ow_67_43) (by rw [if_neg (by decide)]; rfl)
                              refine pm_callV (ci := 12) (as := []) (st := []) hC 90 fP_X12_leads lm_X12_148 li_X12_leads (by decide) (by decide) rfl rfl rfl (by decide) rfl rfl (Nat.le_of_ble_eq_true rfl) ⟨Nat.le_refl _, Or.inl rfl⟩ dX12_sumHere_241 ⟨rfl, hV1072, hp1082⟩ (fun r1084 V1085 hp1086 => ?_)
                              obtain ⟨rfl, hV1087, hF1088, hg1089, hE1090⟩ := hp1086
                              replace hb766 := hb766.trans (pf_call_eq hE1090)
                              change pm_J X 244 [(2, (0, 1)), (3, (0, 4)), (0, (3, 90)), (1, (0, x751))] [] 118 V1085
                              have hF1091 := pm_fs.tr hF1073 hF1088 (by decide) (by decide)
                              have e1092 : V1085 90 1 = y7 := by rw [hF1088.2 1 (by decide)]; exact e1074
                              have e1093 : V1085 90 37 = y727 := by rw [hF1088.2 37 (by decide)]; exact e1075
                              have e1094 : V1085 90 33 = y1063 := by rw [hF1088.2 33 (by decide)]; exact e1079
                              have e1095 : V1085 90 38 = 109 := by rw [hF1088.2 38 (by decide)]; exact e1080
                              have e1096 : V1085 90 39 = (y1066 + 1) := by rw [hF1088.2 39 (by decide)]; exact e1081
                              obtain ⟨y1097, e1098⟩ : ∃ y, V1085 90 2 = y := ⟨_, rfl⟩
                              have b1099 := hV1087.get 90 2 (lo := 0) (hi := 500) (by decide) (by decide) rfl
                              rw [e1098] at b1099
                              replace hb766 := hb766.trans (pf_let_eq e1098)
                              obtain ⟨y1100, e1101⟩ : ∃ y, V1085 90 3 = y := ⟨_, rfl⟩
                              have b1102 := hV1087.get 90 3 (lo := 0) (hi := 4) (by decide) (by decide) rfl
                              rw [e1101] at b1102
                              replace hb766 := hb766.trans (pf_let_eq e1101)
                              obtain ⟨y1103, e1104⟩ : ∃ y, V1085 90 4 = y := ⟨_, rfl⟩
                              have b1105 := hV1087.get 90 4 (lo := 0) (hi := 500) (by decide) (by decide) rfl
                              rw [e1104] at b1105
                              replace hb766 := hb766.trans (pf_let_eq e1104)
                              have hpr1106 := r_leads_pr hV1072 hp1082 hE1090
                              have htk1107 : pm_tk V1085 := hpr1106.2.2.2.1
                              have hS := hS.fr (hF1088.1 107 (by decide) (by decide)) (hF1088.1 109 (by decide) (by decide)) (hF1088.2 33 (by decide)) (hF1088.2 39 (by decide))
                              refine pm_goto (tgt := 9) hC dX12_sumHere_244 (by decide) ?_
                              replace hb104 := hb104.trans (pf_val_inr hb766)
                              replace hb48 := hb48.trans (pf_val_inr hb104)
                              refine pm_lvsub [2, 3, 0] (lv' := [(0, (3, 90)), (1, (0, x751)), (2, (0, 1))]) rfl ?_
                              exact ih52 _ (by (exact ow_67_72 b35 hm50 c68 hx101 e113 c128 b708 e719 b720 hx763 e772 b790 c792 e1076 hpr1106)) x751 1 V1085 ⟨by exact ow_67_30 b752, by exact ow_67_53 c1017⟩ ⟨by decide, by decide⟩ hV1087 hF1091 e1092 hg1089 htk1107 (by (have e : V1085 90 2 = y1097 := e1098); rw [e]; exact ow_67_45 hx763 e772 e775 b776 e1076 e1098 hpr1106) (hS.cast rfl (by exact ow_67_46)) (by rw [(show V1085 90 33 = y1063 from e1094), (show V1085 90 39 = (y1066 + 1) from e1096), (show V1085 90 4 = y1103 from e1104)]; (exact ow_67_47 hx762 e772 htk b1036 c1038 hLe e1064 e1067 e1076 e1104 hpr1106)) (by rw [(show V1085 90 2 = y1097 from e1098), (show V1085 90 3 = y1100 from e1101)]; exact ow_67_48) (hT.trans (pf_val_inl hb48)) rfl
                            · skip
                              exfalso; exact ow_67_49 c1042
                      · skip
                        replace hb766 := hb766.trans (if_neg c1031)
                        refine pm_iconst (v := 3) hC dX12_sumHere_175 ?_
                        refine pm_goto (tgt := 193) hC dX12_sumHere_176 (by decide) ?_
                        refine pm_istore_n (lv' := [(3, (0, 3)), (0, (3, 90)), (1, (0, x751)), (2, (0, x34))]) hC dX12_sumHere_193 (by decide) rfl ?_
                        refine pm_iload_n hC 0 dX12_sumHere_194 rfl ?_
                        refine pm_iconst (v := (-1)) hC dX12_sumHere_195 ?_
                        refine pm_icmp_eq (tgt := 203) hC ⟨by decide, by decide⟩ ⟨by decide, by decide⟩ dX12_sumHere_196 (by decide) (fun c1108 => ?_) (fun c1108 => ?_)
                        · skip
                          exfalso; exact ow_67_50 c1108
                        · skip
                          refine pm_iconst (v := 1) hC dX12_sumHere_199 ?_
                          refine pm_goto (tgt := 204) hC dX12_sumHere_200 (by decide) ?_
                          refine pm_istore_n (lv' := [(2, (0, 1)), (3, (0, 3)), (0, (3, 90)), (1, (0, x751))]) hC dX12_sumHere_204 (by decide) rfl ?_
                          refine pm_iload_n hC 0 dX12_sumHere_205 rfl ?_
                          refine pm_if_ne (tgt := 212) hC ⟨by decide, by decide⟩ dX12_sumHere_206 (by decide) (fun c1109 => ?_) (fun c1109 => ?_)
                          · skip
                            refine pm_aload_n hC 2 (by decide) dX12_sumHere_212 rfl ?_
                            refine pm_iload_n hC 1 dX12_sumHere_213 rfl ?_
                            refine pm_callS (as := [(0, 3)]) (st := [(3, 90)]) hC (fP_X12_rank 3 ⟨by decide, by decide⟩) lm_X12_244 ls_X12_rank (by decide) (by decide) rfl rfl (Nat.le_of_ble_eq_true rfl) ⟨Nat.le_refl _, Or.inl rfl⟩ dX12_sumHere_214 ⟨rfl, hV754⟩ (fun r1110 V1111 hp1112 => ?_)
                            obtain ⟨y1113, rfl, b1114, rfl, hE1115⟩ := hp1112
                            replace hb766 := hb766.trans (pf_call_eq hE1115)
                            change pm_J X 217 [(2, (0, 1)), (3, (0, 3)), (0, (3, 90)), (1, (0, x751))] [(0, y1113), (3, 90)] 118 V753
                            refine pm_callV (ci := 12) (as := [(0, y1113)]) (st := []) hC 90 (fP_X12_empties y1113 ⟨by exact ow_67_38 b1114, by exact ow_67_39 b1114⟩) lm_X12_265 li_X12_empties (by decide) (by decide) rfl rfl rfl (by decide) rfl rfl (Nat.le_of_ble_eq_true rfl) ⟨Nat.le_refl _, Or.inl rfl⟩ dX12_sumHere_217 ⟨rfl, hV754, (show V753 90 33 + V753 90 39 ≤ 600 by exact ow_67_6 hmp0 hx762 e778 b779)⟩ (fun r1116 V1117 hp1118 => ?_)
                            obtain ⟨rfl, hV1119, hF1120, hE1121⟩ := hp1118
                            replace hb766 := hb766.trans (pf_call_eq hE1121)
                            change pm_J X 220 [(2, (0, 1)), (3, (0, 3)), (0, (3, 90)), (1, (0, x751))] [] 118 V1117
                            have hF1122 := pm_fs.tr hF755 hF1120 (by decide) (by decide)
                            have e1123 : V1117 90 1 = y7 := by rw [hF1120.2 1 (by decide)]; exact e756
                            have e1124 : V1117 90 37 = y727 := by rw [hF1120.2 37 (by decide)]; exact e757
                            have e1125 : V1117 90 2 = y771 := by rw [hF1120.2 2 (by decide)]; exact e772
                            have e1126 : V1117 90 3 = y774 := by rw [hF1120.2 3 (by decide)]; exact e775
                            have e1127 : V1117 90 4 = y777 := by rw [hF1120.2 4 (by decide)]; exact e778
                            have hp1128 : pm_az V1117 := (pm_az.fr hp758 (hF1120.2 1 (by decide)) (hF1120.2 2 (by decide)))
                            have hp1129 : pm_tk V1117 := (pm_tk.fr hp759 (hF1120.2 2 (by decide)) (hF1120.2 3 (by decide)) (hF1120.2 4 (by decide)))
                            obtain ⟨hS, hLe, hTp, hE1, hE2⟩ := pm_sa_empt hS hE1121
                            have hPo := hS.pos
                            obtain ⟨y1130, e1131⟩ : ∃ y, V1117 90 33 = y := ⟨_, rfl⟩
                            have b1132 := hV1119.get 90 33 (lo := 0) (hi := 600) (by decide) (by decide) rfl
                            rw [e1131] at b1132
                            replace hb766 := hb766.trans (pf_let_eq e1131)
                            obtain ⟨y1133, e1134⟩ : ∃ y, V1117 90 39 = y := ⟨_, rfl⟩
                            have b1135 := hV1119.get 90 39 (lo := 0) (hi := 600) (by decide) (by decide) rfl
                            rw [e1134] at b1135
                            replace hb766 := hb766.trans (pf_let_eq e1134)
                            clear hE1 hE2
                            refine pm_aload_n hC 2 (by decide) dX12_sumHere_220 rfl ?_
                            have e1136 : V1117 90 38 = 109 := hV1119.one 90 38 (by decide) (by decide) rfl
                            refine pm_getf (v := 109) hC 90 fl_X12_67 rfl rfl (by decide) rfl e1136 dX12_sumHere_221 ?_
                            refine pm_aload_n hC 2 (by decide) dX12_sumHere_224 rfl ?_
                            refine pm_getf (v := y1133) hC 90 fl_X12_241 rfl rfl (by decide) rfl e1134 dX12_sumHere_225 ?_
                            refine pm_iload_n hC 1 dX12_sumHere_228 rfl ?_
                            refine pm_iastore (len := 600) hC 109 rfl rfl (by decide) ⟨by exact ow_67_23 b1135, by (exact ow_67_40 hmp0 hx762 e778 b779 hLe e1131 b1132 e1134)⟩ (by decide) dX12_sumHere_229 ?_
                            refine pm_aload_n hC 2 (by decide) dX12_sumHere_230 rfl ?_
                            refine pm_dup hC rfl dX12_sumHere_231 ?_
                            refine pm_getf (v := y1133) hC 90 fl_X12_241 rfl rfl (by decide) rfl e1134 dX12_sumHere_232 ?_
                            refine pm_iconst (v := 1) hC dX12_sumHere_235 ?_
                            refine pm_iadd hC dX12_sumHere_236 ?_
                            refine pm_putf hC 90 fl_X12_241 rfl rfl rfl (by decide) rfl trivial dX12_sumHere_237 ?_
                            refine pm_aload_n hC 2 (by decide) dX12_sumHere_240 rfl ?_
                            have hV1139 := ((hV1119.put 109 (y1133 : Int).toNat (x := 3) (lo := (-1)) (hi := 7) rfl ⟨by decide, by decide⟩).put 90 39 (x := (y1133 + 1)) (lo := 0) (hi := 600) rfl ⟨by exact ow_67_41 b1135, by (exact ow_67_42 hmp0 hx762 e778 b779 hLe e1131 b1132 e1134)⟩)
                            have hF1140 := ((hF1122.up 109 (y1133 : Int).toNat 3 (by decide) rfl).upf 39 (y1133 + 1) rfl)
                            obtain ⟨V1137, hv1138⟩ : ∃ V, V = (pm_up (pm_up V1117 109 (y1133 : Int).toNat 3) 90 39 (y1133 + 1)) := ⟨_, rfl⟩
                            rw [← hv1138] at hV1139 hF1140
                            rw [← hv1138]
                            replace hb766 := hb766.trans (pf_let_eq hv1138.symm)
                            have e1141 : V1137 90 1 = y7 := by rw [hv1138]; exact e1123
                            have e1142 : V1137 90 37 = y727 := by rw [hv1138]; exact e1124
                            have e1143 : V1137 90 2 = y771 := by rw [hv1138]; exact e1125
                            have e1144 : V1137 90 3 = y774 := by rw [hv1138]; exact e1126
                            have e1145 : V1137 90 4 = y777 := by rw [hv1138]; exact e1127
                            have e1146 : V1137 90 33 = y1130 := by rw [hv1138]; exact e1131
                            have e1147 : V1137 90 38 = 109 := by rw [hv1138]; exact e1136
                            have e1148 : V1137 90 39 = (y1133 + 1) := by rw [hv1138]; rfl
                            have hp1149 : pm_az V1137 := by rw [hv1138]; exact (pm_az.fr hp1128 rfl rfl)
                            have hp1150 : pm_tk V1137 := by rw [hv1138]; exact (pm_tk.fr hp1129 rfl rfl rfl)
                            have hS : pm_SX V1137 x751 H0 L0 0 := by rw [hv1138, ← e1134]; exact (pm_push hS (Or.inr ⟨by decide, by decide⟩)).cast (by rw [if_neg (by decide)]; exact ow_67_43) (by rw [if_neg (by decide)]; rfl)
                            refine pm_callV (ci := 12) (as := []) (st := []) hC 90 fP_X12_leads lm_X12_148 li_X12_leads (by decide) (by decide) rfl rfl rfl (by decide) rfl rfl (Nat.le_of_ble_eq_true rfl) ⟨Nat.le_refl _, Or.inl rfl⟩ dX12_sumHere_241 ⟨rfl, hV1139, hp1149⟩ (fun r1151 V1152 hp1153 => ?_)
                            obtain ⟨rfl, hV1154, hF1155, hg1156, hE1157⟩ := hp1153
                            replace hb766 := hb766.trans (pf_call_eq hE1157)
                            change pm_J X 244 [(2, (0, 1)), (3, (0, 3)), (0, (3, 90)), (1, (0, x751))] [] 118 V1152
                            have hF1158 := pm_fs.tr hF1140 hF1155 (by decide) (by decide)
                            have e1159 : V1152 90 1 = y7 := by rw [hF1155.2 1 (by decide)]; exact e1141
                            have e1160 : V1152 90 37 = y727 := by rw [hF1155.2 37 (by decide)]; exact e1142
                            have e1161 : V1152 90 33 = y1130 := by rw [hF1155.2 33 (by decide)]; exact e1146
                            have e1162 : V1152 90 38 = 109 := by rw [hF1155.2 38 (by decide)]; exact e1147
                            have e1163 : V1152 90 39 = (y1133 + 1) := by rw [hF1155.2 39 (by decide)]; exact e1148
                            obtain ⟨y1164, e1165⟩ : ∃ y, V1152 90 2 = y := ⟨_, rfl⟩
                            have b1166 := hV1154.get 90 2 (lo := 0) (hi := 500) (by decide) (by decide) rfl
                            rw [e1165] at b1166
                            replace hb766 := hb766.trans (pf_let_eq e1165)
                            obtain ⟨y1167, e1168⟩ : ∃ y, V1152 90 3 = y := ⟨_, rfl⟩
                            have b1169 := hV1154.get 90 3 (lo := 0) (hi := 4) (by decide) (by decide) rfl
                            rw [e1168] at b1169
                            replace hb766 := hb766.trans (pf_let_eq e1168)
                            obtain ⟨y1170, e1171⟩ : ∃ y, V1152 90 4 = y := ⟨_, rfl⟩
                            have b1172 := hV1154.get 90 4 (lo := 0) (hi := 500) (by decide) (by decide) rfl
                            rw [e1171] at b1172
                            replace hb766 := hb766.trans (pf_let_eq e1171)
                            have hpr1173 := r_leads_pr hV1139 hp1149 hE1157
                            have htk1174 : pm_tk V1152 := hpr1173.2.2.2.1
                            have hS := hS.fr (hF1155.1 107 (by decide) (by decide)) (hF1155.1 109 (by decide) (by decide)) (hF1155.2 33 (by decide)) (hF1155.2 39 (by decide))
                            refine pm_goto (tgt := 9) hC dX12_sumHere_244 (by decide) ?_
                            replace hb104 := hb104.trans (pf_val_inr hb766)
                            replace hb48 := hb48.trans (pf_val_inr hb104)
                            refine pm_lvsub [2, 3, 0] (lv' := [(0, (3, 90)), (1, (0, x751)), (2, (0, 1))]) rfl ?_
                            exact ih52 _ (by (exact ow_67_72 b35 hm50 c68 hx101 e113 c128 b708 e719 b720 hx763 e772 b790 c792 e1143 hpr1173)) x751 1 V1152 ⟨by exact ow_67_30 b752, by exact ow_67_53 c1017⟩ ⟨by decide, by decide⟩ hV1154 hF1158 e1159 hg1156 htk1174 (by (have e : V1152 90 2 = y1164 := e1165); rw [e]; exact ow_67_45 hx763 e772 e775 b776 e1143 e1165 hpr1173) (hS.cast rfl (by exact ow_67_46)) (by rw [(show V1152 90 33 = y1130 from e1161), (show V1152 90 39 = (y1133 + 1) from e1163), (show V1152 90 4 = y1170 from e1171)]; (exact ow_67_47 hx762 e772 htk b1029 c1031 hLe e1131 e1134 e1143 e1171 hpr1173)) (by rw [(show V1152 90 2 = y1164 from e1165), (show V1152 90 3 = y1167 from e1168)]; exact ow_67_48) (hT.trans (pf_val_inl hb48)) rfl
                          · skip
                            exfalso; exact ow_67_49 c1109
                    · skip
                      replace hb766 := hb766.trans (if_neg c1024)
                      refine pm_iconst (v := 2) hC dX12_sumHere_162 ?_
                      refine pm_goto (tgt := 193) hC dX12_sumHere_163 (by decide) ?_
                      refine pm_istore_n (lv' := [(3, (0, 2)), (0, (3, 90)), (1, (0, x751)), (2, (0, x34))]) hC dX12_sumHere_193 (by decide) rfl ?_
                      refine pm_iload_n hC 0 dX12_sumHere_194 rfl ?_
                      refine pm_iconst (v := (-1)) hC dX12_sumHere_195 ?_
                      refine pm_icmp_eq (tgt := 203) hC ⟨by decide, by decide⟩ ⟨by decide, by decide⟩ dX12_sumHere_196 (by decide) (fun c1175 => ?_) (fun c1175 => ?_)
                      · skip
                        exfalso; exact ow_67_51 c1175
                      · skip
                        refine pm_iconst (v := 1) hC dX12_sumHere_199 ?_
                        refine pm_goto (tgt := 204) hC dX12_sumHere_200 (by decide) ?_
                        refine pm_istore_n (lv' := [(2, (0, 1)), (3, (0, 2)), (0, (3, 90)), (1, (0, x751))]) hC dX12_sumHere_204 (by decide) rfl ?_
                        refine pm_iload_n hC 0 dX12_sumHere_205 rfl ?_
                        refine pm_if_ne (tgt := 212) hC ⟨by decide, by decide⟩ dX12_sumHere_206 (by decide) (fun c1176 => ?_) (fun c1176 => ?_)
                        · skip
                          refine pm_aload_n hC 2 (by decide) dX12_sumHere_212 rfl ?_
                          refine pm_iload_n hC 1 dX12_sumHere_213 rfl ?_
                          refine pm_callS (as := [(0, 2)]) (st := [(3, 90)]) hC (fP_X12_rank 2 ⟨by decide, by decide⟩) lm_X12_244 ls_X12_rank (by decide) (by decide) rfl rfl (Nat.le_of_ble_eq_true rfl) ⟨Nat.le_refl _, Or.inl rfl⟩ dX12_sumHere_214 ⟨rfl, hV754⟩ (fun r1177 V1178 hp1179 => ?_)
                          obtain ⟨y1180, rfl, b1181, rfl, hE1182⟩ := hp1179
                          replace hb766 := hb766.trans (pf_call_eq hE1182)
                          change pm_J X 217 [(2, (0, 1)), (3, (0, 2)), (0, (3, 90)), (1, (0, x751))] [(0, y1180), (3, 90)] 118 V753
                          refine pm_callV (ci := 12) (as := [(0, y1180)]) (st := []) hC 90 (fP_X12_empties y1180 ⟨by exact ow_67_38 b1181, by exact ow_67_39 b1181⟩) lm_X12_265 li_X12_empties (by decide) (by decide) rfl rfl rfl (by decide) rfl rfl (Nat.le_of_ble_eq_true rfl) ⟨Nat.le_refl _, Or.inl rfl⟩ dX12_sumHere_217 ⟨rfl, hV754, (show V753 90 33 + V753 90 39 ≤ 600 by exact ow_67_6 hmp0 hx762 e778 b779)⟩ (fun r1183 V1184 hp1185 => ?_)
                          obtain ⟨rfl, hV1186, hF1187, hE1188⟩ := hp1185
                          replace hb766 := hb766.trans (pf_call_eq hE1188)
                          change pm_J X 220 [(2, (0, 1)), (3, (0, 2)), (0, (3, 90)), (1, (0, x751))] [] 118 V1184
                          have hF1189 := pm_fs.tr hF755 hF1187 (by decide) (by decide)
                          have e1190 : V1184 90 1 = y7 := by rw [hF1187.2 1 (by decide)]; exact e756
                          have e1191 : V1184 90 37 = y727 := by rw [hF1187.2 37 (by decide)]; exact e757
                          have e1192 : V1184 90 2 = y771 := by rw [hF1187.2 2 (by decide)]; exact e772
                          have e1193 : V1184 90 3 = y774 := by rw [hF1187.2 3 (by decide)]; exact e775
                          have e1194 : V1184 90 4 = y777 := by rw [hF1187.2 4 (by decide)]; exact e778
                          have hp1195 : pm_az V1184 := (pm_az.fr hp758 (hF1187.2 1 (by decide)) (hF1187.2 2 (by decide)))
                          have hp1196 : pm_tk V1184 := (pm_tk.fr hp759 (hF1187.2 2 (by decide)) (hF1187.2 3 (by decide)) (hF1187.2 4 (by decide)))
                          obtain ⟨hS, hLe, hTp, hE1, hE2⟩ := pm_sa_empt hS hE1188
                          have hPo := hS.pos
                          obtain ⟨y1197, e1198⟩ : ∃ y, V1184 90 33 = y := ⟨_, rfl⟩
                          have b1199 := hV1186.get 90 33 (lo := 0) (hi := 600) (by decide) (by decide) rfl
                          rw [e1198] at b1199
                          replace hb766 := hb766.trans (pf_let_eq e1198)
                          obtain ⟨y1200, e1201⟩ : ∃ y, V1184 90 39 = y := ⟨_, rfl⟩
                          have b1202 := hV1186.get 90 39 (lo := 0) (hi := 600) (by decide) (by decide) rfl
                          rw [e1201] at b1202
                          replace hb766 := hb766.trans (pf_let_eq e1201)
                          clear hE1 hE2
                          refine pm_aload_n hC 2 (by decide) dX12_sumHere_220 rfl ?_
                          have e1203 : V1184 90 38 = 109 := hV1186.one 90 38 (by decide) (by decide) rfl
                          refine pm_getf (v := 109) hC 90 fl_X12_67 rfl rfl (by decide) rfl e1203 dX12_sumHere_221 ?_
                          refine pm_aload_n hC 2 (by decide) dX12_sumHere_224 rfl ?_
                          refine pm_getf (v := y1200) hC 90 fl_X12_241 rfl rfl (by decide) rfl e1201 dX12_sumHere_225 ?_
                          refine pm_iload_n hC 1 dX12_sumHere_228 rfl ?_
                          refine pm_iastore (len := 600) hC 109 rfl rfl (by decide) ⟨by exact ow_67_23 b1202, by exact ow_67_40 hmp0 hx762 e778 b779 hLe e1198 b1199 e1201⟩ (by decide) dX12_sumHere_229 ?_
                          refine pm_aload_n hC 2 (by decide) dX12_sumHere_230 rfl ?_
                          refine pm_dup hC rfl dX12_sumHere_231 ?_
                          refine pm_getf (v := y1200) hC 90 fl_X12_241 rfl rfl (by decide) rfl e1201 dX12_sumHere_232 ?_
                          refine pm_iconst (v := 1) hC dX12_sumHere_235 ?_
                          refine pm_iadd hC dX12_sumHere_236 ?_
                          refine pm_putf hC 90 fl_X12_241 rfl rfl rfl (by decide) rfl trivial dX12_sumHere_237 ?_
                          refine pm_aload_n hC 2 (by decide) dX12_sumHere_240 rfl ?_
                          have hV1206 := ((hV1186.put 109 (y1200 : Int).toNat (x := 2) (lo := (-1)) (hi := 7) rfl ⟨by decide, by decide⟩).put 90 39 (x := (y1200 + 1)) (lo := 0) (hi := 600) rfl ⟨by exact ow_67_41 b1202, by exact ow_67_42 hmp0 hx762 e778 b779 hLe e1198 b1199 e1201⟩)
                          have hF1207 := ((hF1189.up 109 (y1200 : Int).toNat 2 (by decide) rfl).upf 39 (y1200 + 1) rfl)
                          obtain ⟨V1204, hv1205⟩ : ∃ V, V = (pm_up (pm_up V1184 109 (y1200 : Int).toNat 2) 90 39 (y1200 + 1)) := ⟨_, rfl⟩
                          rw [← hv1205] at hV1206 hF1207
                          rw [← hv1205]
                          replace hb766 := hb766.trans (pf_let_eq hv1205.symm)
                          have e1208 : V1204 90 1 = y7 := by rw [hv1205]; exact e1190
                          have e1209 : V1204 90 37 = y727 := by rw [hv1205]; exact e1191
                          have e1210 : V1204 90 2 = y771 := by rw [hv1205]; exact e1192
                          have e1211 : V1204 90 3 = y774 := by rw [hv1205]; exact e1193
                          have e1212 : V1204 90 4 = y777 := by rw [hv1205]; exact e1194
                          have e1213 : V1204 90 33 = y1197 := by rw [hv1205]; exact e1198
                          have e1214 : V1204 90 38 = 109 := by rw [hv1205]; exact e1203
                          have e1215 : V1204 90 39 = (y1200 + 1) := by rw [hv1205]; rfl
                          have hp1216 : pm_az V1204 := by rw [hv1205]; exact (pm_az.fr hp1195 rfl rfl)
                          have hp1217 : pm_tk V1204 := by rw [hv1205]; exact (pm_tk.fr hp1196 rfl rfl rfl)
                          have hS : pm_SX V1204 x751 H0 L0 0 := by rw [hv1205, ← e1201]; exact (pm_push hS (Or.inr ⟨by decide, by decide⟩)).cast (by rw [if_neg (by decide)]; exact ow_67_43) (by rw [if_neg (by decide)]; rfl)
                          refine pm_callV (ci := 12) (as := []) (st := []) hC 90 fP_X12_leads lm_X12_148 li_X12_leads (by decide) (by decide) rfl rfl rfl (by decide) rfl rfl (Nat.le_of_ble_eq_true rfl) ⟨Nat.le_refl _, Or.inl rfl⟩ dX12_sumHere_241 ⟨rfl, hV1206, hp1216⟩ (fun r1218 V1219 hp1220 => ?_)
                          obtain ⟨rfl, hV1221, hF1222, hg1223, hE1224⟩ := hp1220
                          replace hb766 := hb766.trans (pf_call_eq hE1224)
                          change pm_J X 244 [(2, (0, 1)), (3, (0, 2)), (0, (3, 90)), (1, (0, x751))] [] 118 V1219
                          have hF1225 := pm_fs.tr hF1207 hF1222 (by decide) (by decide)
                          have e1226 : V1219 90 1 = y7 := by rw [hF1222.2 1 (by decide)]; exact e1208
                          have e1227 : V1219 90 37 = y727 := by rw [hF1222.2 37 (by decide)]; exact e1209
                          have e1228 : V1219 90 33 = y1197 := by rw [hF1222.2 33 (by decide)]; exact e1213
                          have e1229 : V1219 90 38 = 109 := by rw [hF1222.2 38 (by decide)]; exact e1214
                          have e1230 : V1219 90 39 = (y1200 + 1) := by rw [hF1222.2 39 (by decide)]; exact e1215
                          obtain ⟨y1231, e1232⟩ : ∃ y, V1219 90 2 = y := ⟨_, rfl⟩
                          have b1233 := hV1221.get 90 2 (lo := 0) (hi := 500) (by decide) (by decide) rfl
                          rw [e1232] at b1233
                          replace hb766 := hb766.trans (pf_let_eq e1232)
                          obtain ⟨y1234, e1235⟩ : ∃ y, V1219 90 3 = y := ⟨_, rfl⟩
                          have b1236 := hV1221.get 90 3 (lo := 0) (hi := 4) (by decide) (by decide) rfl
                          rw [e1235] at b1236
                          replace hb766 := hb766.trans (pf_let_eq e1235)
                          obtain ⟨y1237, e1238⟩ : ∃ y, V1219 90 4 = y := ⟨_, rfl⟩
                          have b1239 := hV1221.get 90 4 (lo := 0) (hi := 500) (by decide) (by decide) rfl
                          rw [e1238] at b1239
                          replace hb766 := hb766.trans (pf_let_eq e1238)
                          have hpr1240 := r_leads_pr hV1206 hp1216 hE1224
                          have htk1241 : pm_tk V1219 := hpr1240.2.2.2.1
                          have hS := hS.fr (hF1222.1 107 (by decide) (by decide)) (hF1222.1 109 (by decide) (by decide)) (hF1222.2 33 (by decide)) (hF1222.2 39 (by decide))
                          refine pm_goto (tgt := 9) hC dX12_sumHere_244 (by decide) ?_
                          replace hb104 := hb104.trans (pf_val_inr hb766)
                          replace hb48 := hb48.trans (pf_val_inr hb104)
                          refine pm_lvsub [2, 3, 0] (lv' := [(0, (3, 90)), (1, (0, x751)), (2, (0, 1))]) rfl ?_
                          exact ih52 _ (by (exact ow_67_72 b35 hm50 c68 hx101 e113 c128 b708 e719 b720 hx763 e772 b790 c792 e1210 hpr1240)) x751 1 V1219 ⟨by exact ow_67_30 b752, by exact ow_67_53 c1017⟩ ⟨by decide, by decide⟩ hV1221 hF1225 e1226 hg1223 htk1241 (by (have e : V1219 90 2 = y1231 := e1232); rw [e]; exact ow_67_45 hx763 e772 e775 b776 e1210 e1232 hpr1240) (hS.cast rfl (by exact ow_67_46)) (by rw [(show V1219 90 33 = y1197 from e1228), (show V1219 90 39 = (y1200 + 1) from e1230), (show V1219 90 4 = y1237 from e1238)]; (exact ow_67_47 hx762 e772 htk b1022 c1024 hLe e1198 e1201 e1210 e1238 hpr1240)) (by rw [(show V1219 90 2 = y1231 from e1232), (show V1219 90 3 = y1234 from e1235)]; exact ow_67_48) (hT.trans (pf_val_inl hb48)) rfl
                        · skip
                          exfalso; exact ow_67_49 c1176
                  · skip
                    replace hb766 := hb766.trans (if_neg (Int.not_le.mpr c1017))
                    refine pm_aload_n hC 0 (by decide) dX12_sumHere_128 rfl ?_
                    refine pm_iconst (v := 1) hC dX12_sumHere_129 ?_
                    refine pm_callV (ci := 12) (as := [(0, 1)]) (st := []) hC 90 (fP_X12_empties 1 ⟨by decide, by decide⟩) lm_X12_265 li_X12_empties (by decide) (by decide) rfl rfl rfl (by decide) rfl rfl (Nat.le_of_ble_eq_true rfl) ⟨Nat.le_refl _, Or.inl rfl⟩ dX12_sumHere_130 ⟨rfl, hV754, (show V753 90 33 + V753 90 39 ≤ 600 by exact ow_67_6 hmp0 hx762 e778 b779)⟩ (fun r1242 V1243 hp1244 => ?_)
                    obtain ⟨rfl, hV1245, hF1246, hE1247⟩ := hp1244
                    replace hb766 := hb766.trans (pf_call_eq hE1247)
                    change pm_J X 133 [(0, (3, 90)), (1, (0, x751)), (2, (0, x34))] [] 118 V1243
                    have hF1248 := pm_fs.tr hF755 hF1246 (by decide) (by decide)
                    have e1249 : V1243 90 1 = y7 := by rw [hF1246.2 1 (by decide)]; exact e756
                    have e1250 : V1243 90 37 = y727 := by rw [hF1246.2 37 (by decide)]; exact e757
                    have e1251 : V1243 90 2 = y771 := by rw [hF1246.2 2 (by decide)]; exact e772
                    have e1252 : V1243 90 3 = y774 := by rw [hF1246.2 3 (by decide)]; exact e775
                    have e1253 : V1243 90 4 = y777 := by rw [hF1246.2 4 (by decide)]; exact e778
                    have hp1254 : pm_az V1243 := (pm_az.fr hp758 (hF1246.2 1 (by decide)) (hF1246.2 2 (by decide)))
                    have hp1255 : pm_tk V1243 := (pm_tk.fr hp759 (hF1246.2 2 (by decide)) (hF1246.2 3 (by decide)) (hF1246.2 4 (by decide)))
                    obtain ⟨hS, hLe, hTp, hE1, hE2⟩ := pm_sa_empt hS hE1247
                    have hPo := hS.pos
                    replace hTp := hTp rfl
                    obtain ⟨y1256, e1257⟩ : ∃ y, V1243 90 33 = y := ⟨_, rfl⟩
                    have b1258 := hV1245.get 90 33 (lo := 0) (hi := 600) (by decide) (by decide) rfl
                    rw [e1257] at b1258
                    replace hb766 := hb766.trans (pf_let_eq e1257)
                    obtain ⟨y1259, e1260⟩ : ∃ y, V1243 90 39 = y := ⟨_, rfl⟩
                    have b1261 := hV1245.get 90 39 (lo := 0) (hi := 600) (by decide) (by decide) rfl
                    rw [e1260] at b1261
                    replace hb766 := hb766.trans (pf_let_eq e1260)
                    clear hE1 hE2
                    refine pm_aload_n hC 0 (by decide) dX12_sumHere_133 rfl ?_
                    refine pm_dup hC rfl dX12_sumHere_134 ?_
                    refine pm_getf (v := y1259) hC 90 fl_X12_241 rfl rfl (by decide) rfl e1260 dX12_sumHere_135 ?_
                    refine pm_iconst (v := 1) hC dX12_sumHere_138 ?_
                    refine pm_isub hC dX12_sumHere_139 ?_
                    refine pm_putf hC 90 fl_X12_241 rfl rfl rfl (by decide) rfl trivial dX12_sumHere_140 ?_
                    obtain ⟨x1262, ei1263⟩ : ∃ y : Int, x751 + (-1) = y := ⟨_, rfl⟩
                    replace hb766 := hb766.trans (pf_let_eq ei1263)
                    refine pm_iinc (y := x1262) (lv' := [(1, (0, x1262)), (0, (3, 90)), (2, (0, x34))]) hC 1 dX12_sumHere_143 (by decide) rfl ei1263 rfl ?_
                    refine pm_aload_n hC 1 (by decide) dX12_sumHere_146 rfl ?_
                    have hV1266 := (hV1245.put 90 39 (x := (y1259 - 1)) (lo := 0) (hi := 600) rfl ⟨by exact ow_67_54 c1017 hPo e1260, by exact ow_67_55 hmp0 hx762 e778 b779 hLe e1257 b1258 e1260⟩)
                    have hF1267 := (hF1248.upf 39 (y1259 - 1) rfl)
                    obtain ⟨V1264, hv1265⟩ : ∃ V, V = (pm_up V1243 90 39 (y1259 - 1)) := ⟨_, rfl⟩
                    rw [← hv1265] at hV1266 hF1267
                    rw [← hv1265]
                    replace hb766 := hb766.trans (pf_let_eq hv1265.symm)
                    have e1268 : V1264 90 1 = y7 := by rw [hv1265]; exact e1249
                    have e1269 : V1264 90 37 = y727 := by rw [hv1265]; exact e1250
                    have e1270 : V1264 90 2 = y771 := by rw [hv1265]; exact e1251
                    have e1271 : V1264 90 3 = y774 := by rw [hv1265]; exact e1252
                    have e1272 : V1264 90 4 = y777 := by rw [hv1265]; exact e1253
                    have e1273 : V1264 90 33 = y1256 := by rw [hv1265]; exact e1257
                    have e1274 : V1264 90 39 = (y1259 - 1) := by rw [hv1265]; rfl
                    have hp1275 : pm_az V1264 := by rw [hv1265]; exact (pm_az.fr hp1254 rfl rfl)
                    have hp1276 : pm_tk V1264 := by rw [hv1265]; exact (pm_tk.fr hp1255 rfl rfl rfl)
                    have hS : pm_SX V1264 x1262 H0 L0 1 := by rw [hv1265, ← e1260]; exact (pm_popb hS (by exact ow_67_56 c1017 hPo) (by rcases hTp with q | q; (exfalso; exact ow_67_57 c1017 hPo q); exact q.2)).cast (by exact ow_67_58 ei1263) rfl
                    refine pm_callV (ci := 12) (as := []) (st := []) hC 90 fP_X12_leads lm_X12_148 li_X12_leads (by decide) (by decide) rfl rfl rfl (by decide) rfl rfl (Nat.le_of_ble_eq_true rfl) ⟨Nat.le_refl _, Or.inl rfl⟩ dX12_sumHere_147 ⟨rfl, hV1266, hp1275⟩ (fun r1277 V1278 hp1279 => ?_)
                    obtain ⟨rfl, hV1280, hF1281, hg1282, hE1283⟩ := hp1279
                    replace hb766 := hb766.trans (pf_call_eq hE1283)
                    change pm_J X 150 [(1, (0, x1262)), (0, (3, 90)), (2, (0, x34))] [] 118 V1278
                    have hF1284 := pm_fs.tr hF1267 hF1281 (by decide) (by decide)
                    have e1285 : V1278 90 1 = y7 := by rw [hF1281.2 1 (by decide)]; exact e1268
                    have e1286 : V1278 90 37 = y727 := by rw [hF1281.2 37 (by decide)]; exact e1269
                    have e1287 : V1278 90 33 = y1256 := by rw [hF1281.2 33 (by decide)]; exact e1273
                    have e1288 : V1278 90 39 = (y1259 - 1) := by rw [hF1281.2 39 (by decide)]; exact e1274
                    obtain ⟨y1289, e1290⟩ : ∃ y, V1278 90 2 = y := ⟨_, rfl⟩
                    have b1291 := hV1280.get 90 2 (lo := 0) (hi := 500) (by decide) (by decide) rfl
                    rw [e1290] at b1291
                    replace hb766 := hb766.trans (pf_let_eq e1290)
                    obtain ⟨y1292, e1293⟩ : ∃ y, V1278 90 3 = y := ⟨_, rfl⟩
                    have b1294 := hV1280.get 90 3 (lo := 0) (hi := 4) (by decide) (by decide) rfl
                    rw [e1293] at b1294
                    replace hb766 := hb766.trans (pf_let_eq e1293)
                    obtain ⟨y1295, e1296⟩ : ∃ y, V1278 90 4 = y := ⟨_, rfl⟩
                    have b1297 := hV1280.get 90 4 (lo := 0) (hi := 500) (by decide) (by decide) rfl
                    rw [e1296] at b1297
                    replace hb766 := hb766.trans (pf_let_eq e1296)
                    have hpr1298 := r_leads_pr hV1266 hp1275 hE1283
                    have htk1299 : pm_tk V1278 := hpr1298.2.2.2.1
                    have hS := hS.fr (hF1281.1 107 (by decide) (by decide)) (hF1281.1 109 (by decide) (by decide)) (hF1281.2 33 (by decide)) (hF1281.2 39 (by decide))
                    refine pm_goto (tgt := 115) hC dX12_sumHere_150 (by decide) ?_
                    refine pm_lvsub [1, 0, 2] (lv' := [(0, (3, 90)), (1, (0, x1262)), (2, (0, x34))]) rfl ?_
                    exact ih770 _ (by (exact ow_67_73 hm768 e772 b773 b790 c792 e1270 hpr1298)) x1262 V1278 ⟨by exact ow_67_60 c1017 ei1263, by exact ow_67_61 b752 ei1263⟩ hV1280 hF1284 e1285 e1286 hg1282 htk1299 (by (have e : V1278 90 2 = y1289 := e1290); rw [e]; (exact ow_67_45 hx763 e772 e775 b776 e1270 e1290 hpr1298)) hS (by rw [(show V1278 90 33 = y1256 from e1287), (show V1278 90 39 = (y1259 - 1) from e1288), (show V1278 90 4 = y1295 from e1296)]; (exact ow_67_62 hx762 e772 e775 b776 htk hLe e1257 e1260 e1270 e1296 hpr1298)) (by rw [(show V1278 90 2 = y1289 from e1290), (show V1278 90 3 = y1292 from e1293)]; (exact ow_67_63 hx763 e772 e775 b776 e1270 e1290 e1293 hpr1298)) (hb104.trans (pf_val_inl hb766)) rfl
              refine pm_lvsub [0, 1, 2] (lv' := [(0, (3, 90)), (1, (0, x89)), (2, (0, x34))]) rfl ?_
              exact L767 _ x89 V732 ⟨by exact ow_67_30 b90, by exact ow_67_31 b90⟩ hV735 hF739 e740 e745 hp746 hp747 (by (have e : V732 90 2 = y718 := e742); rw [e]; exact ow_67_74 hm98 b708 e719) hS (by rw [(show V732 90 33 = y748 from e749), (show V732 90 39 = y118 from e741), (show V732 90 4 = y724 from e744)]; (exact ow_67_75 e95 hx100 e119 b708 e716 e725 c730 hxp737 e749)) (by rw [(show V732 90 2 = y718 from e742), (show V732 90 3 = y721 from e743)]; (exact ow_67_76 hm98 hx101 e113 c128 b708 e719 e722 c730)) hb104 rfl
            · skip
              replace hb104 := hb104.trans (if_neg (fun q => q c730))
              refine pm_iconst (v := 0) hC dX12_sumHere_79 ?_
              replace hb48 := hb48.trans (pf_val_inr hb104)
              replace hT := hT.trans (pf_val_inr hb48)
              exact pm_iret hC hR (pm_narZ (by exact ow_67_13)) ⟨0, rfl, ⟨by exact ow_67_14, by exact ow_67_8, by exact ow_67_15, by exact ow_67_77 hm98 b708⟩, hV709, hF714, hg711, hg712, (fun q => absurd q (by decide)), (fun q => absurd q (by decide)), hT⟩ dX12_sumHere_80
        · skip
          replace hb104 := hb104.trans (if_neg c127)
          refine pm_iload_n hC 1 dX12_sumHere_22 rfl ?_
          refine pm_bipush (v := 8) hC dX12_sumHere_23 (by decide) ?_
          refine pm_icmp_ne (tgt := 30) hC ⟨by exact ow_67_2 b90, by exact ow_67_3 b90⟩ ⟨by decide, by decide⟩ dX12_sumHere_25 (by decide) (fun c1300 => ?_) (fun c1300 => ?_)
          · skip
            replace hb104 := hb104.trans (if_pos c1300)
            obtain ⟨x1301, ei1302⟩ : ∃ y : Int, x89 + 1 = y := ⟨_, rfl⟩
            replace hb104 := hb104.trans (pf_let_eq ei1302)
            refine pm_iinc (y := x1301) (lv' := [(1, (0, x1301)), (0, (3, 90)), (2, (0, x34))]) hC 1 dX12_sumHere_30 (by decide) rfl ei1302 rfl ?_
            refine pm_aload_n hC 1 (by decide) dX12_sumHere_33 rfl ?_
            have e1303 : V91 90 38 = 109 := hV92.one 90 38 (by decide) (by decide) rfl
            refine pm_getf (v := 109) hC 90 fl_X12_67 rfl rfl (by decide) rfl e1303 dX12_sumHere_34 ?_
            refine pm_aload_n hC 1 (by decide) dX12_sumHere_37 rfl ?_
            refine pm_getf (v := y118) hC 90 fl_X12_241 rfl rfl (by decide) rfl e119 dX12_sumHere_38 ?_
            refine pm_iconst (v := (-1)) hC dX12_sumHere_41 ?_
            refine pm_iastore (len := 600) hC 109 rfl rfl (by decide) ⟨by exact ow_67_23 b120, by exact ow_67_78 hmp0 b64 e95 hx100 e116 b117 e119⟩ (by decide) dX12_sumHere_42 ?_
            refine pm_aload_n hC 1 (by decide) dX12_sumHere_43 rfl ?_
            refine pm_dup hC rfl dX12_sumHere_44 ?_
            refine pm_getf (v := y118) hC 90 fl_X12_241 rfl rfl (by decide) rfl e119 dX12_sumHere_45 ?_
            refine pm_iconst (v := 1) hC dX12_sumHere_48 ?_
            refine pm_iadd hC dX12_sumHere_49 ?_
            refine pm_putf hC 90 fl_X12_241 rfl rfl rfl (by decide) rfl trivial dX12_sumHere_50 ?_
            refine pm_aload_n hC 1 (by decide) dX12_sumHere_53 rfl ?_
            have hV1306 := ((hV92.put 109 (y118 : Int).toNat (x := (-1)) (lo := (-1)) (hi := 7) rfl ⟨by decide, by decide⟩).put 90 39 (x := (y118 + 1)) (lo := 0) (hi := 600) rfl ⟨by exact ow_67_41 b120, by exact ow_67_79 hmp0 b64 e95 hx100 e116 b117 e119⟩)
            have hF1307 := ((hF93.up 109 (y118 : Int).toNat (-1) (by decide) rfl).upf 39 (y118 + 1) rfl)
            obtain ⟨V1304, hv1305⟩ : ∃ V, V = (pm_up (pm_up V91 109 (y118 : Int).toNat (-1)) 90 39 (y118 + 1)) := ⟨_, rfl⟩
            rw [← hv1305] at hV1306 hF1307
            rw [← hv1305]
            replace hb104 := hb104.trans (pf_let_eq hv1305.symm)
            have e1308 : V1304 90 1 = y7 := by rw [hv1305]; exact e94
            have e1309 : V1304 90 33 = y62 := by rw [hv1305]; exact e95
            have e1310 : V1304 90 2 = y109 := by rw [hv1305]; exact e110
            have e1311 : V1304 90 3 = y112 := by rw [hv1305]; exact e113
            have e1312 : V1304 90 4 = y115 := by rw [hv1305]; exact e116
            have e1313 : V1304 90 38 = 109 := by rw [hv1305]; exact e1303
            have e1314 : V1304 90 39 = (y118 + 1) := by rw [hv1305]; rfl
            have hp1315 : pm_az V1304 := by rw [hv1305]; exact (pm_az.fr hp96 rfl rfl)
            have hp1316 : pm_tk V1304 := by rw [hv1305]; exact (pm_tk.fr hp97 rfl rfl rfl)
            have hS : pm_SX V1304 x1301 H0 L0 0 := by rw [hv1305, ← e119]; exact (pm_push hS (Or.inl rfl)).cast (by rw [if_pos rfl]; exact ow_67_80 ei1302) (by rw [if_pos rfl]; exact ow_67_81)
            refine pm_callV (ci := 12) (as := []) (st := []) hC 90 fP_X12_leads lm_X12_148 li_X12_leads (by decide) (by decide) rfl rfl rfl (by decide) rfl rfl (Nat.le_of_ble_eq_true rfl) ⟨Nat.le_refl _, Or.inl rfl⟩ dX12_sumHere_54 ⟨rfl, hV1306, hp1315⟩ (fun r1317 V1318 hp1319 => ?_)
            obtain ⟨rfl, hV1320, hF1321, hg1322, hE1323⟩ := hp1319
            replace hb104 := hb104.trans (pf_call_eq hE1323)
            change pm_J X 57 [(1, (0, x1301)), (0, (3, 90)), (2, (0, x34))] [] 118 V1318
            have hF1324 := pm_fs.tr hF1307 hF1321 (by decide) (by decide)
            have e1325 : V1318 90 1 = y7 := by rw [hF1321.2 1 (by decide)]; exact e1308
            have e1326 : V1318 90 33 = y62 := by rw [hF1321.2 33 (by decide)]; exact e1309
            have e1327 : V1318 90 38 = 109 := by rw [hF1321.2 38 (by decide)]; exact e1313
            have e1328 : V1318 90 39 = (y118 + 1) := by rw [hF1321.2 39 (by decide)]; exact e1314
            obtain ⟨y1329, e1330⟩ : ∃ y, V1318 90 2 = y := ⟨_, rfl⟩
            have b1331 := hV1320.get 90 2 (lo := 0) (hi := 500) (by decide) (by decide) rfl
            rw [e1330] at b1331
            replace hb104 := hb104.trans (pf_let_eq e1330)
            obtain ⟨y1332, e1333⟩ : ∃ y, V1318 90 3 = y := ⟨_, rfl⟩
            have b1334 := hV1320.get 90 3 (lo := 0) (hi := 4) (by decide) (by decide) rfl
            rw [e1333] at b1334
            replace hb104 := hb104.trans (pf_let_eq e1333)
            obtain ⟨y1335, e1336⟩ : ∃ y, V1318 90 4 = y := ⟨_, rfl⟩
            have b1337 := hV1320.get 90 4 (lo := 0) (hi := 500) (by decide) (by decide) rfl
            rw [e1336] at b1337
            replace hb104 := hb104.trans (pf_let_eq e1336)
            have hpr1338 := r_leads_pr hV1306 hp1315 hE1323
            have htk1339 : pm_tk V1318 := hpr1338.2.2.2.1
            have hS := hS.fr (hF1321.1 107 (by decide) (by decide)) (hF1321.1 109 (by decide) (by decide)) (hF1321.2 33 (by decide)) (hF1321.2 39 (by decide))
            refine pm_goto (tgt := 13) hC dX12_sumHere_57 (by decide) ?_
            refine pm_lvsub [1, 0, 2] (lv' := [(0, (3, 90)), (1, (0, x1301)), (2, (0, x34))]) rfl ?_
            exact ih108 _ (by (exact ow_67_73 hm106 e110 b111 b125 c127 e1310 hpr1338)) x1301 V1318 ⟨by exact ow_67_82 b90 ei1302, by exact ow_67_83 b90 c1300 ei1302⟩ hV1320 hF1324 e1325 e1326 hg1322 htk1339 (by (have e : V1318 90 2 = y1329 := e1330); rw [e]; exact ow_67_64 hm98 e110 e1310 e1330 hpr1338) hS (by rw [(show V1318 90 33 = y62 from e1326), (show V1318 90 39 = (y118 + 1) from e1328), (show V1318 90 4 = y1335 from e1336)]; (exact ow_67_84 e95 hx100 e110 e119 htk b125 c127 e1310 e1336 hpr1338)) (by rw [(show V1318 90 2 = y1329 from e1330), (show V1318 90 3 = y1332 from e1333)]; exact ow_67_85 hx101 e110 e113 b114 e1310 e1330 e1333 hpr1338) (hb48.trans (pf_val_inl hb104)) rfl
          · skip
            replace hb104 := hb104.trans (if_neg (fun q => q c1300))
            refine pm_iconst (v := 0) hC dX12_sumHere_28 ?_
            replace hb48 := hb48.trans (pf_val_inr hb104)
            replace hT := hT.trans (pf_val_inr hb48)
            exact pm_iret hC hR (pm_narZ (by exact ow_67_13)) ⟨0, rfl, ⟨by exact ow_67_14, by exact ow_67_8, by exact ow_67_15, by exact ow_67_16 hm98⟩, hV92, hF93, hp96, hp97, (fun q => absurd q (by decide)), (fun q => absurd q (by decide)), hT⟩ dX12_sumHere_29
      refine pm_lvsub [0, 1, 2] (lv' := [(0, (3, 90)), (1, (0, x32)), (2, (0, x34))]) rfl ?_
      exact L105 _ x32 V36 ⟨by exact ow_67_30 b33, by exact ow_67_31 b33⟩ hV37 hF38 e39 e63 hp40 hp41 (by (have e : V36 90 2 = y53 := e54); rw [e]; exact ow_67_86 hm42 e54) (hS.cast rfl (by exact ow_67_87 b35 c68)) (by rw [(show V36 90 33 = y62 from e63), (show V36 90 39 = y65 from e66), (show V36 90 4 = y59 from e60)]; exact ow_67_34 hx44 e60 e63 e66) (by rw [(show V36 90 2 = y53 from e54), (show V36 90 3 = y56 from e57)]; exact ow_67_88) hb48 rfl
  refine pm_lvsub [2, 1, 0] (lv' := [(0, (3, 90)), (1, (0, 0)), (2, (0, 1))]) rfl ?_
  exact L49 _ 0 1 V19 ⟨by decide, by decide⟩ ⟨by decide, by decide⟩ hV21 hF22 e25 hp29 hp30 (by (have e : V19 90 2 = y10 := e26); rw [e]; exact ow_67_89 e11) (by rw [hv20]; exact (pm_su_start (by exact ow_67_90 e2 b3) hh0 hw0 hH0 hL0).cast rfl (by exact ow_67_46)) (by rw [(show V19 90 33 = y1 from e23), (show V19 90 39 = 0 from e28), (show V19 90 4 = y4 from e24)]; exact ow_67_91 e2 e5) (by rw [(show V19 90 2 = y10 from e26), (show V19 90 3 = y13 from e27)]; exact ow_67_48) hT rfl
