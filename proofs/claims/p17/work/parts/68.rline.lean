theorem ow_68_0 {a0 a1 : Int} (h0 : ((0 ≤ (a0 : Int)) ∧ ((a0 ≤ (1 : Int)) ∧ ((a0 = (1 : Int)) → (a1 = (1 : Int)))))) : ((-2147483648) ≤ (a0 : Int)) := by omega
theorem ow_68_1 {a0 a1 : Int} (h0 : ((0 ≤ (a0 : Int)) ∧ ((a0 ≤ (1 : Int)) ∧ ((a0 = (1 : Int)) → (a1 = (1 : Int)))))) : (a0 ≤ (2147483647 : Int)) := by omega
theorem ow_68_2 : ((0 = (0 : Int)) ∨ (0 = (1 : Int))) := by omega
theorem ow_68_3 : (0 ≤ (0 : Int)) := by omega
theorem ow_68_4 : (0 ≤ (1 : Int)) := by omega
theorem ow_68_5 {a0 a1 : Int} : ((0 = (1 : Int)) → (a0 ≤ ((5 * (a1 - a1)) : Int))) := by omega
theorem ow_68_6 {a0 : Int} : (a0 ≤ (a0 : Int)) := by omega
theorem ow_68_7 {a0 : Int} (h0 : ((0 ≤ (a0 : Int)) ∧ (a0 ≤ (10 : Int)))) : ((-2147483648) ≤ (a0 : Int)) := by omega
theorem ow_68_8 {a0 : Int} (h0 : ((0 ≤ (a0 : Int)) ∧ (a0 ≤ (10 : Int)))) : (a0 ≤ (2147483647 : Int)) := by omega
theorem ow_68_9 (h0 : ¬(((-1) = ((-1) : Int)))) : False := by omega
theorem ow_68_10 {a0 a1 a2 : Int} : ((0 = (1 : Int)) → (a0 ≤ ((5 * (a1 - a2)) : Int))) := by omega
theorem ow_68_11 {a0 a1 a2 a3 a4 a5 : Int} (h0 : (a0 = (a1 : Int))) (h1 : ((0 ≤ (a1 : Int)) ∧ (a1 ≤ (4 : Int)))) (h2 : ((a2 ≤ (a3 : Int)) ∧ ((a3 ≤ (a4 : Int)) ∧ ((a4 ≤ (a5 : Int)) ∧ ((a0 ≤ ((4 * (a4 - a3)) : Int)) ∧ (a0 ≤ ((5 * (a4 - a2)) : Int))))))) : (a2 ≤ (a4 : Int)) := by omega
theorem ow_68_12 {a0 : Int} (h0 : ((0 ≤ (a0 : Int)) ∧ (a0 ≤ (1 : Int)))) : ((-2147483648) ≤ (a0 : Int)) := by omega
theorem ow_68_13 {a0 : Int} (h0 : ((0 ≤ (a0 : Int)) ∧ (a0 ≤ (1 : Int)))) : (a0 ≤ (2147483647 : Int)) := by omega
theorem ow_68_14 {a0 : Int} (h0 : ((0 ≤ (a0 : Int)) ∧ (a0 ≤ (600 : Int)))) : (0 ≤ (a0 : Int)) := by omega
theorem ow_68_15 {a0 a1 a2 a3 : Int} (h0 : ((a0 + 2) ≤ (a1 : Int))) (h1 : (a1 = (a2 : Int))) (h2 : ((0 ≤ (a2 : Int)) ∧ (a2 ≤ (500 : Int)))) (h3 : (a0 = (a3 : Int))) : (a3 ≤ (599 : Int)) := by omega
theorem ow_68_16 {a0 : Int} (h0 : ((0 ≤ (a0 : Int)) ∧ (a0 ≤ (599 : Int)))) : (0 ≤ (a0 : Int)) := by omega
theorem ow_68_17 {a0 : Int} (h0 : ((0 ≤ (a0 : Int)) ∧ (a0 ≤ (10 : Int)))) : (0 ≤ ((a0 + 1) : Int)) := by omega
theorem ow_68_18 {a0 : Int} (h0 : ((0 ≤ (a0 : Int)) ∧ (a0 ≤ (10 : Int)))) (h1 : ¬((a0 = (10 : Int)))) : ((a0 + 1) ≤ (10 : Int)) := by omega
theorem ow_68_19 {a0 a1 : Int} (h0 : (a0 = (a1 : Int))) : ((a1 + 1) = ((a0 + 1) : Int)) := by omega
theorem ow_68_20 {a0 a1 a2 a3 a4 a5 : Int} (h0 : ((0 ≤ (a0 : Int)) ∧ ((a0 ≤ (1 : Int)) ∧ (((a0 = (1 : Int)) → (a1 ≤ ((5 * (a2 - a3)) : Int))) ∧ ((a3 ≤ (a2 : Int)) ∧ (a4 ≤ (a5 : Int))))))) : ((a0 = (0 : Int)) ∨ (a0 = (1 : Int))) := by omega
theorem ow_68_21 {a0 a1 a2 a3 a4 a5 : Int} (h0 : ((0 ≤ (a0 : Int)) ∧ ((a0 ≤ (1 : Int)) ∧ (((a0 = (1 : Int)) → (a1 ≤ ((5 * (a2 - a3)) : Int))) ∧ ((a3 ≤ (a2 : Int)) ∧ (a4 ≤ (a5 : Int))))))) : (0 ≤ (a0 : Int)) := by omega
theorem ow_68_22 {a0 a1 a2 a3 a4 a5 : Int} (h0 : ((0 ≤ (a0 : Int)) ∧ ((a0 ≤ (1 : Int)) ∧ (((a0 = (1 : Int)) → (a1 ≤ ((5 * (a2 - a3)) : Int))) ∧ ((a3 ≤ (a2 : Int)) ∧ (a4 ≤ (a5 : Int))))))) : (a0 ≤ (1 : Int)) := by omega
theorem ow_68_23 {a0 a1 a2 a3 a4 a5 a6 a7 a8 : Int} (h0 : (a0 ≤ (a1 : Int))) (h1 : (a1 = (a2 : Int))) (h2 : (a3 = (a2 : Int))) (h3 : ((0 ≤ (a4 : Int)) ∧ ((a4 ≤ (1 : Int)) ∧ (((a4 = (1 : Int)) → (a5 ≤ ((5 * (a6 - a3)) : Int))) ∧ ((a3 ≤ (a6 : Int)) ∧ (a7 ≤ (a8 : Int))))))) : ((a4 = (1 : Int)) → (a5 ≤ ((5 * (a6 - a0)) : Int))) := by omega
theorem ow_68_24 {a0 a1 a2 a3 a4 a5 a6 a7 a8 : Int} (h0 : (a0 ≤ (a1 : Int))) (h1 : (a1 = (a2 : Int))) (h2 : (a3 = (a2 : Int))) (h3 : ((0 ≤ (a4 : Int)) ∧ ((a4 ≤ (1 : Int)) ∧ (((a4 = (1 : Int)) → (a5 ≤ ((5 * (a6 - a3)) : Int))) ∧ ((a3 ≤ (a6 : Int)) ∧ (a7 ≤ (a8 : Int))))))) : (a0 ≤ (a6 : Int)) := by omega
theorem ow_68_25 {a0 a1 a2 a3 a4 a5 a6 a7 a8 a9 a10 a11 : Int} (h0 : ((a0 + 2) ≤ (a1 : Int))) (h1 : (a1 = (a2 : Int))) (h2 : (a3 = ((a0 + 1) : Int))) (h3 : (a3 = (a4 : Int))) (h4 : (a5 = (a2 : Int))) (h5 : ((0 ≤ (a6 : Int)) ∧ ((a6 ≤ (1 : Int)) ∧ (((a6 = (1 : Int)) → (a7 ≤ ((5 * (a8 - a9)) : Int))) ∧ ((a9 ≤ (a8 : Int)) ∧ (a5 ≤ (a10 : Int))))))) (h6 : (a11 = (a4 : Int))) : (a11 ≤ (a10 : Int)) := by omega
theorem ow_68_26 {a0 a1 a2 a3 a4 a5 a6 a7 a8 a9 a10 : Int} (h0 : ((a0 + 2) ≤ (a1 : Int))) (h1 : (a2 = (a3 : Int))) (h2 : ((0 ≤ (a3 : Int)) ∧ (a3 ≤ (4 : Int)))) (h3 : (a0 = (a4 : Int))) (h4 : (a2 ≤ ((4 * (a5 - a1)) : Int))) (h5 : (a6 = (a4 : Int))) (h6 : ((a5 ≤ (a7 : Int)) ∧ ((a7 ≤ (a8 : Int)) ∧ ((a8 ≤ (a9 : Int)) ∧ ((a10 ≤ ((4 * (a8 - a7)) : Int)) ∧ (a10 ≤ ((5 * (a8 - a5)) : Int))))))) : (a6 ≤ (a7 : Int)) := by omega
theorem ow_68_27 {a0 a1 a2 a3 : Int} (h0 : ((0 ≤ (a0 : Int)) ∧ ((a0 ≤ (1 : Int)) ∧ (((a0 = (1 : Int)) → (a1 ≤ ((5 * (a2 - a3)) : Int))) ∧ (a3 ≤ (a2 : Int)))))) : ((-2147483648) ≤ (a0 : Int)) := by omega
theorem ow_68_28 {a0 a1 a2 a3 : Int} (h0 : ((0 ≤ (a0 : Int)) ∧ ((a0 ≤ (1 : Int)) ∧ (((a0 = (1 : Int)) → (a1 ≤ ((5 * (a2 - a3)) : Int))) ∧ (a3 ≤ (a2 : Int)))))) : (a0 ≤ (2147483647 : Int)) := by omega
theorem ow_68_29 {a0 a1 a2 a3 : Int} (h0 : ((0 ≤ (a0 : Int)) ∧ ((a0 ≤ (1 : Int)) ∧ (((a0 = (1 : Int)) → (a1 ≤ ((5 * (a2 - a3)) : Int))) ∧ (a3 ≤ (a2 : Int)))))) (h1 : ¬((a0 = (0 : Int)))) : (a0 = (1 : Int)) := by omega
theorem ow_68_30 {a0 a1 : Int} (h0 : ((0 ≤ (a0 : Int)) ∧ ((a0 ≤ (1 : Int)) ∧ ((a0 = (1 : Int)) → (a1 = (3 : Int)))))) : ((-2147483648) ≤ (a0 : Int)) := by omega
theorem ow_68_31 {a0 a1 : Int} (h0 : ((0 ≤ (a0 : Int)) ∧ ((a0 ≤ (1 : Int)) ∧ ((a0 = (1 : Int)) → (a1 = (3 : Int)))))) : (a0 ≤ (2147483647 : Int)) := by omega
theorem ow_68_32 {a0 a1 a2 a3 a4 a5 a6 a7 a8 : Int} (h0 : (a0 ≤ (a1 : Int))) (h1 : ((a1 ≤ (a2 : Int)) ∧ ((a2 ≤ (a3 : Int)) ∧ ((a3 ≤ (a4 : Int)) ∧ ((a5 ≤ ((4 * (a3 - a2)) : Int)) ∧ (a5 ≤ ((5 * (a3 - a1)) : Int))))))) (h2 : ((0 ≤ (a6 : Int)) ∧ ((a6 ≤ (1 : Int)) ∧ (((a6 = (1 : Int)) → (a7 ≤ ((5 * (a8 - a3)) : Int))) ∧ (a3 ≤ (a8 : Int)))))) : (a0 ≤ (a8 : Int)) := by omega
theorem ow_68_33 {a0 a1 a2 a3 a4 a5 a6 a7 a8 a9 a10 a11 a12 a13 a14 a15 a16 a17 a18 a19 a20 a21 : Int} (h0 : ((a0 + 2) ≤ (a1 : Int))) (h1 : (a2 = (a3 : Int))) (h2 : ((0 ≤ (a3 : Int)) ∧ (a3 ≤ (4 : Int)))) (h3 : (a0 = (a4 : Int))) (h4 : (a2 ≤ ((4 * (a5 - a1)) : Int))) (h5 : (a6 = (a4 : Int))) (h6 : ((a5 ≤ (a7 : Int)) ∧ ((a7 ≤ (a8 : Int)) ∧ ((a8 ≤ (a9 : Int)) ∧ ((a10 ≤ ((4 * (a8 - a7)) : Int)) ∧ (a10 ≤ ((5 * (a8 - a5)) : Int))))))) (h7 : (a11 = (a12 : Int))) (h8 : ((0 ≤ (a12 : Int)) ∧ (a12 ≤ (4 : Int)))) (h9 : (a13 = (a14 : Int))) (h10 : (a11 ≤ ((4 * (a15 - a16)) : Int))) (h11 : ((a13 + a7) ≤ ((a16 + a6) : Int))) (h12 : (a17 = (a14 : Int))) (h13 : ((a15 ≤ (a18 : Int)) ∧ ((a18 ≤ (a19 : Int)) ∧ ((a19 ≤ (a20 : Int)) ∧ ((a21 ≤ ((4 * (a19 - a18)) : Int)) ∧ (a21 ≤ ((5 * (a19 - a15)) : Int))))))) : (a17 ≤ (a18 : Int)) := by omega
theorem ow_68_34 {a0 a1 a2 a3 a4 a5 a6 a7 a8 a9 a10 a11 a12 a13 a14 a15 a16 a17 a18 a19 a20 a21 a22 a23 a24 a25 : Int} (h0 : ((a0 + 2) ≤ (a1 : Int))) (h1 : (a2 = (a3 : Int))) (h2 : ((0 ≤ (a3 : Int)) ∧ (a3 ≤ (4 : Int)))) (h3 : (a0 = (a4 : Int))) (h4 : (a2 ≤ ((4 * (a5 - a1)) : Int))) (h5 : (a6 = (a4 : Int))) (h6 : ((a5 ≤ (a7 : Int)) ∧ ((a7 ≤ (a8 : Int)) ∧ ((a8 ≤ (a9 : Int)) ∧ ((a10 ≤ ((4 * (a8 - a7)) : Int)) ∧ (a10 ≤ ((5 * (a8 - a5)) : Int))))))) (h7 : (a11 = (a12 : Int))) (h8 : ((0 ≤ (a12 : Int)) ∧ (a12 ≤ (4 : Int)))) (h9 : (a13 = (a14 : Int))) (h10 : (a11 ≤ ((4 * (a15 - a16)) : Int))) (h11 : ((a13 + a7) ≤ ((a16 + a6) : Int))) (h12 : (a17 = (a14 : Int))) (h13 : ((a15 ≤ (a18 : Int)) ∧ ((a18 ≤ (a19 : Int)) ∧ ((a19 ≤ (a20 : Int)) ∧ ((a21 ≤ ((4 * (a19 - a18)) : Int)) ∧ (a21 ≤ ((5 * (a19 - a15)) : Int))))))) (h14 : (a22 = (a23 : Int))) (h15 : ((0 ≤ (a23 : Int)) ∧ (a23 ≤ (500 : Int)))) (h16 : (a24 = (a25 : Int))) (h17 : ((a24 + a18) ≤ ((a22 + a17) : Int))) : (a25 ≤ (599 : Int)) := by omega
theorem ow_68_35 {a0 a1 a2 a4 a5 a6 a7 a8 a9 a10 a11 a12 a13 a14 a15 a16 a17 a18 a19 a20 a21 a22 a23 a24 a25 : Int} {k3 : Nat} (h0 : ((0 ≤ (a0 : Int)) ∧ (a0 ≤ (1 : Int)))) (h1 : ((((2 * ((5 * (500 - a1)) + a2)) + a0) : Int).toNat = (k3 : Nat))) (h2 : (a1 = (a4 : Int))) (h3 : ((0 ≤ (a4 : Int)) ∧ (a4 ≤ (500 : Int)))) (h4 : ((a0 = (1 : Int)) → (a2 = (1 : Int)))) (h5 : ¬((a0 = (0 : Int)))) (h6 : (a5 = (a6 : Int))) (h7 : ((0 ≤ (a6 : Int)) ∧ (a6 ≤ (4 : Int)))) (h8 : ((a1 ≤ (a7 : Int)) ∧ ((a7 ≤ (a8 : Int)) ∧ ((a8 ≤ (a9 : Int)) ∧ ((a5 ≤ ((4 * (a8 - a7)) : Int)) ∧ (a5 ≤ ((5 * (a8 - a1)) : Int))))))) (h9 : ((0 ≤ (a10 : Int)) ∧ ((a10 ≤ (1 : Int)) ∧ (((a10 = (1 : Int)) → (a11 ≤ ((5 * (a12 - a8)) : Int))) ∧ (a8 ≤ (a12 : Int)))))) (h10 : (a13 = (a14 : Int))) (h11 : ((0 ≤ (a14 : Int)) ∧ (a14 ≤ (4 : Int)))) (h12 : ((a12 ≤ (a15 : Int)) ∧ ((a15 ≤ (a16 : Int)) ∧ ((a16 ≤ (a17 : Int)) ∧ ((a13 ≤ ((4 * (a16 - a15)) : Int)) ∧ (a13 ≤ ((5 * (a16 - a12)) : Int))))))) (h13 : ((0 ≤ (a18 : Int)) ∧ ((a18 ≤ (1 : Int)) ∧ (((a18 = (1 : Int)) → (a19 ≤ ((5 * (a20 - a16)) : Int))) ∧ (a16 ≤ (a20 : Int)))))) (h14 : (a20 = (a21 : Int))) (h15 : (a19 = (a22 : Int))) (h16 : ¬((a18 = (0 : Int)))) (h17 : (a23 = (a21 : Int))) (h18 : (a24 = (a22 : Int))) (h19 : ((0 ≤ (a25 : Int)) ∧ ((a25 ≤ (1 : Int)) ∧ ((a25 = (1 : Int)) → (a24 = (1 : Int)))))) : ((((2 * ((5 * (500 - a23)) + a24)) + a25) : Int).toNat < (k3 : Nat)) := by omega
theorem ow_68_36 {a0 a1 : Int} (h0 : ((0 ≤ (a0 : Int)) ∧ ((a0 ≤ (1 : Int)) ∧ ((a0 = (1 : Int)) → (a1 = (1 : Int)))))) : (0 ≤ (a0 : Int)) := by omega
theorem ow_68_37 {a0 a1 : Int} (h0 : ((0 ≤ (a0 : Int)) ∧ ((a0 ≤ (1 : Int)) ∧ ((a0 = (1 : Int)) → (a1 = (1 : Int)))))) : (a0 ≤ (1 : Int)) := by omega
theorem ow_68_38 {a0 a1 a2 a3 a4 a5 a6 a7 a8 a9 a10 a11 a12 a13 a14 a15 a16 : Int} (h0 : (a0 ≤ (a1 : Int))) (h1 : ((a1 ≤ (a2 : Int)) ∧ ((a2 ≤ (a3 : Int)) ∧ ((a3 ≤ (a4 : Int)) ∧ ((a5 ≤ ((4 * (a3 - a2)) : Int)) ∧ (a5 ≤ ((5 * (a3 - a1)) : Int))))))) (h2 : ((0 ≤ (a6 : Int)) ∧ ((a6 ≤ (1 : Int)) ∧ (((a6 = (1 : Int)) → (a7 ≤ ((5 * (a8 - a3)) : Int))) ∧ (a3 ≤ (a8 : Int)))))) (h3 : ((a8 ≤ (a9 : Int)) ∧ ((a9 ≤ (a10 : Int)) ∧ ((a10 ≤ (a11 : Int)) ∧ ((a12 ≤ ((4 * (a10 - a9)) : Int)) ∧ (a12 ≤ ((5 * (a10 - a8)) : Int))))))) (h4 : ((0 ≤ (a13 : Int)) ∧ ((a13 ≤ (1 : Int)) ∧ (((a13 = (1 : Int)) → (a14 ≤ ((5 * (a15 - a10)) : Int))) ∧ (a10 ≤ (a15 : Int)))))) (h5 : (a15 = (a16 : Int))) : (a0 ≤ (a16 : Int)) := by omega
theorem ow_68_39 {a0 a1 a2 a3 a4 a5 a6 a7 a8 a9 a10 a11 a12 a13 a14 a15 a16 a17 a18 a19 a20 a21 a22 a23 a24 a25 a26 : Int} (h0 : ((a0 + 2) ≤ (a1 : Int))) (h1 : (a2 = (a3 : Int))) (h2 : ((0 ≤ (a3 : Int)) ∧ (a3 ≤ (4 : Int)))) (h3 : (a0 = (a4 : Int))) (h4 : (a2 ≤ ((4 * (a5 - a1)) : Int))) (h5 : (a6 = (a4 : Int))) (h6 : ((a5 ≤ (a7 : Int)) ∧ ((a7 ≤ (a8 : Int)) ∧ ((a8 ≤ (a9 : Int)) ∧ ((a10 ≤ ((4 * (a8 - a7)) : Int)) ∧ (a10 ≤ ((5 * (a8 - a5)) : Int))))))) (h7 : (a11 = (a12 : Int))) (h8 : (a13 ≤ ((4 * (a14 - a15)) : Int))) (h9 : ((a11 + a7) ≤ ((a15 + a6) : Int))) (h10 : ((0 ≤ (a16 : Int)) ∧ ((a16 ≤ (1 : Int)) ∧ ((a16 = (1 : Int)) → (a13 = (3 : Int)))))) (h11 : ¬((a16 = (0 : Int)))) (h12 : (a17 = (a12 : Int))) (h13 : ((a14 ≤ (a18 : Int)) ∧ ((a18 ≤ (a19 : Int)) ∧ ((a19 ≤ (a20 : Int)) ∧ ((a21 ≤ ((4 * (a19 - a18)) : Int)) ∧ (a21 ≤ ((5 * (a19 - a14)) : Int))))))) (h14 : (a22 = (a23 : Int))) (h15 : ((a24 + a18) ≤ ((a22 + a17) : Int))) (h16 : (a25 = ((a24 + 1) : Int))) (h17 : (a25 = (a26 : Int))) : ((a26 + 2) ≤ (a23 : Int)) := by omega
theorem ow_68_40 {a0 a1 a2 : Int} (h0 : (a0 = (a1 : Int))) (h1 : ((0 ≤ (a2 : Int)) ∧ ((a2 ≤ (1 : Int)) ∧ ((a2 = (1 : Int)) → (a0 = (1 : Int)))))) : ((a2 = (1 : Int)) → (a1 = (1 : Int))) := by omega
theorem ow_68_41 {a0 a1 a2 a3 a4 a5 a6 a7 a8 a9 a10 a11 a12 a13 a14 a15 : Int} (h0 : (a0 ≤ (a1 : Int))) (h1 : ((a1 ≤ (a2 : Int)) ∧ ((a2 ≤ (a3 : Int)) ∧ ((a3 ≤ (a4 : Int)) ∧ ((a5 ≤ ((4 * (a3 - a2)) : Int)) ∧ (a5 ≤ ((5 * (a3 - a1)) : Int))))))) (h2 : ((0 ≤ (a6 : Int)) ∧ ((a6 ≤ (1 : Int)) ∧ (((a6 = (1 : Int)) → (a7 ≤ ((5 * (a8 - a3)) : Int))) ∧ (a3 ≤ (a8 : Int)))))) (h3 : ((a8 ≤ (a9 : Int)) ∧ ((a9 ≤ (a10 : Int)) ∧ ((a10 ≤ (a11 : Int)) ∧ ((a12 ≤ ((4 * (a10 - a9)) : Int)) ∧ (a12 ≤ ((5 * (a10 - a8)) : Int))))))) (h4 : ((0 ≤ (a13 : Int)) ∧ ((a13 ≤ (1 : Int)) ∧ (((a13 = (1 : Int)) → (a14 ≤ ((5 * (a15 - a10)) : Int))) ∧ (a10 ≤ (a15 : Int)))))) : (a0 ≤ (a15 : Int)) := by omega
theorem ow_68_42 (h0 : (6 = ((-1) : Int))) : False := by omega
theorem ow_68_43 (h0 : (5 = ((-1) : Int))) : False := by omega
theorem ow_68_44 {a0 a1 a2 a3 a4 a5 a6 a7 a8 a9 : Int} (h0 : ((a0 ≤ (a1 : Int)) ∧ ((a1 ≤ (a2 : Int)) ∧ ((a2 ≤ (a3 : Int)) ∧ ((a4 ≤ ((4 * (a2 - a1)) : Int)) ∧ (a4 ≤ ((5 * (a2 - a0)) : Int))))))) (h1 : (a5 = (a6 : Int))) (h2 : ((a2 ≤ (a7 : Int)) ∧ ((a7 ≤ (a5 : Int)) ∧ ((a5 ≤ (a8 : Int)) ∧ ((a9 ≤ ((4 * (a5 - a7)) : Int)) ∧ (a9 ≤ ((5 * (a5 - a2)) : Int))))))) : (a0 ≤ (a6 : Int)) := by omega
theorem ow_68_45 {a0 a1 a2 : Int} (h0 : (a0 = (a1 : Int))) (h1 : ((0 ≤ (a2 : Int)) ∧ ((a2 ≤ (1 : Int)) ∧ ((a2 = (1 : Int)) → (a0 = (1 : Int)))))) (h2 : ¬((a2 = (0 : Int)))) : ((1 = (1 : Int)) → (a1 = (1 : Int))) := by omega
theorem ow_68_46 {a0 a1 a2 a3 a4 a5 a6 a7 a8 : Int} (h0 : ((a0 ≤ (a1 : Int)) ∧ ((a1 ≤ (a2 : Int)) ∧ ((a2 ≤ (a3 : Int)) ∧ ((a4 ≤ ((4 * (a2 - a1)) : Int)) ∧ (a4 ≤ ((5 * (a2 - a0)) : Int))))))) (h1 : ((a2 ≤ (a5 : Int)) ∧ ((a5 ≤ (a6 : Int)) ∧ ((a6 ≤ (a7 : Int)) ∧ ((a8 ≤ ((4 * (a6 - a5)) : Int)) ∧ (a8 ≤ ((5 * (a6 - a2)) : Int))))))) : (a0 ≤ (a6 : Int)) := by omega
theorem ow_68_47 (h0 : (3 = ((-1) : Int))) : False := by omega
theorem ow_68_48 {a0 a1 a2 a4 a5 a6 a7 a8 a9 a10 a11 a12 a13 a14 a15 a16 a17 a18 a19 a20 a21 a22 a23 a24 a25 : Int} {k3 : Nat} (h0 : ((0 ≤ (a0 : Int)) ∧ (a0 ≤ (1 : Int)))) (h1 : ((((2 * ((5 * (500 - a1)) + a2)) + a0) : Int).toNat = (k3 : Nat))) (h2 : ((a0 = (1 : Int)) → (a2 = (1 : Int)))) (h3 : ¬((a0 = (0 : Int)))) (h4 : (a4 = (a5 : Int))) (h5 : ((0 ≤ (a5 : Int)) ∧ (a5 ≤ (4 : Int)))) (h6 : (a6 = (a7 : Int))) (h7 : ((0 ≤ (a7 : Int)) ∧ (a7 ≤ (500 : Int)))) (h8 : ((a1 ≤ (a6 : Int)) ∧ ((a6 ≤ (a8 : Int)) ∧ ((a8 ≤ (a9 : Int)) ∧ ((a4 ≤ ((4 * (a8 - a6)) : Int)) ∧ (a4 ≤ ((5 * (a8 - a1)) : Int))))))) (h9 : ((0 ≤ (a10 : Int)) ∧ ((a10 ≤ (1 : Int)) ∧ (((a10 = (1 : Int)) → (a11 ≤ ((5 * (a12 - a8)) : Int))) ∧ (a8 ≤ (a12 : Int)))))) (h10 : (a13 = (a14 : Int))) (h11 : ((0 ≤ (a14 : Int)) ∧ (a14 ≤ (4 : Int)))) (h12 : ((a12 ≤ (a15 : Int)) ∧ ((a15 ≤ (a16 : Int)) ∧ ((a16 ≤ (a17 : Int)) ∧ ((a13 ≤ ((4 * (a16 - a15)) : Int)) ∧ (a13 ≤ ((5 * (a16 - a12)) : Int))))))) (h13 : ((0 ≤ (a18 : Int)) ∧ ((a18 ≤ (1 : Int)) ∧ (((a18 = (1 : Int)) → (a19 ≤ ((5 * (a20 - a16)) : Int))) ∧ (a16 ≤ (a20 : Int)))))) (h14 : (a20 = (a21 : Int))) (h15 : (a19 = (a22 : Int))) (h16 : ¬((a18 = (0 : Int)))) (h17 : (a23 = (a21 : Int))) (h18 : (a24 = (a22 : Int))) (h19 : ((0 ≤ (a25 : Int)) ∧ ((a25 ≤ (1 : Int)) ∧ ((a25 = (1 : Int)) → (a24 = (1 : Int)))))) : ((((2 * ((5 * (500 - a23)) + a24)) + a25) : Int).toNat < (k3 : Nat)) := by omega
theorem ow_68_49 (h0 : (2 = ((-1) : Int))) : False := by omega
theorem ow_68_50 {a0 a1 a2 a4 a5 a6 a7 a8 a9 a10 a11 a12 a13 a14 a15 a16 a17 a18 a19 a20 a21 a22 a23 a24 : Int} {k3 : Nat} (h0 : ((0 ≤ (a0 : Int)) ∧ (a0 ≤ (1 : Int)))) (h1 : ((((2 * ((5 * (500 - a1)) + a2)) + a0) : Int).toNat = (k3 : Nat))) (h2 : ((a0 = (1 : Int)) → (a2 = (1 : Int)))) (h3 : ¬((a0 = (0 : Int)))) (h4 : (a4 = (a5 : Int))) (h5 : ((0 ≤ (a5 : Int)) ∧ (a5 ≤ (4 : Int)))) (h6 : (a6 = (a7 : Int))) (h7 : ((0 ≤ (a7 : Int)) ∧ (a7 ≤ (500 : Int)))) (h8 : ((a1 ≤ (a6 : Int)) ∧ ((a6 ≤ (a8 : Int)) ∧ ((a8 ≤ (a9 : Int)) ∧ ((a4 ≤ ((4 * (a8 - a6)) : Int)) ∧ (a4 ≤ ((5 * (a8 - a1)) : Int))))))) (h9 : ((0 ≤ (a10 : Int)) ∧ ((a10 ≤ (1 : Int)) ∧ (((a10 = (1 : Int)) → (a11 ≤ ((5 * (a12 - a8)) : Int))) ∧ (a8 ≤ (a12 : Int)))))) (h10 : ((a12 ≤ (a13 : Int)) ∧ ((a13 ≤ (a14 : Int)) ∧ ((a14 ≤ (a15 : Int)) ∧ ((a16 ≤ ((4 * (a14 - a13)) : Int)) ∧ (a16 ≤ ((5 * (a14 - a12)) : Int))))))) (h11 : ((0 ≤ (a17 : Int)) ∧ ((a17 ≤ (1 : Int)) ∧ (((a17 = (1 : Int)) → (a18 ≤ ((5 * (a19 - a14)) : Int))) ∧ (a14 ≤ (a19 : Int)))))) (h12 : (a19 = (a20 : Int))) (h13 : (a18 = (a21 : Int))) (h14 : ¬((a17 = (0 : Int)))) (h15 : (a22 = (a20 : Int))) (h16 : (a23 = (a21 : Int))) (h17 : ((0 ≤ (a24 : Int)) ∧ ((a24 ≤ (1 : Int)) ∧ ((a24 = (1 : Int)) → (a23 = (1 : Int)))))) : ((((2 * ((5 * (500 - a22)) + a23)) + a24) : Int).toNat < (k3 : Nat)) := by omega
theorem ow_68_51 (h0 : (1 = ((-1) : Int))) : False := by omega
theorem ow_68_52 {a0 a1 a2 a4 a5 a6 a7 a8 a9 a10 a11 a12 a13 a14 a15 a16 a17 a18 a19 a20 a21 a22 a23 a24 : Int} {k3 : Nat} (h0 : ((0 ≤ (a0 : Int)) ∧ (a0 ≤ (1 : Int)))) (h1 : ((((2 * ((5 * (500 - a1)) + a2)) + a0) : Int).toNat = (k3 : Nat))) (h2 : (a1 = (a4 : Int))) (h3 : ((0 ≤ (a4 : Int)) ∧ (a4 ≤ (500 : Int)))) (h4 : ((a0 = (1 : Int)) → (a2 = (1 : Int)))) (h5 : ¬((a0 = (0 : Int)))) (h6 : (a5 = (a6 : Int))) (h7 : ((0 ≤ (a6 : Int)) ∧ (a6 ≤ (4 : Int)))) (h8 : ((a1 ≤ (a7 : Int)) ∧ ((a7 ≤ (a8 : Int)) ∧ ((a8 ≤ (a9 : Int)) ∧ ((a5 ≤ ((4 * (a8 - a7)) : Int)) ∧ (a5 ≤ ((5 * (a8 - a1)) : Int))))))) (h9 : ((0 ≤ (a10 : Int)) ∧ ((a10 ≤ (1 : Int)) ∧ (((a10 = (1 : Int)) → (a11 ≤ ((5 * (a12 - a8)) : Int))) ∧ (a8 ≤ (a12 : Int)))))) (h10 : ((a12 ≤ (a13 : Int)) ∧ ((a13 ≤ (a14 : Int)) ∧ ((a14 ≤ (a15 : Int)) ∧ ((a16 ≤ ((4 * (a14 - a13)) : Int)) ∧ (a16 ≤ ((5 * (a14 - a12)) : Int))))))) (h11 : ((0 ≤ (a17 : Int)) ∧ ((a17 ≤ (1 : Int)) ∧ (((a17 = (1 : Int)) → (a18 ≤ ((5 * (a19 - a14)) : Int))) ∧ (a14 ≤ (a19 : Int)))))) (h12 : (a19 = (a20 : Int))) (h13 : (a18 = (a21 : Int))) (h14 : ¬((a17 = (0 : Int)))) (h15 : (a22 = (a20 : Int))) (h16 : (a23 = (a21 : Int))) (h17 : ((0 ≤ (a24 : Int)) ∧ ((a24 ≤ (1 : Int)) ∧ ((a24 = (1 : Int)) → (a23 = (1 : Int)))))) : ((((2 * ((5 * (500 - a22)) + a23)) + a24) : Int).toNat < (k3 : Nat)) := by omega
theorem ow_68_53 {a0 a1 a2 a3 a4 a6 a7 a8 a9 a10 a11 a12 a13 a14 a15 a16 a17 a18 a19 a20 a21 a22 a23 a24 : Int} {k5 : Nat} (h0 : ((0 ≤ (a0 : Int)) ∧ (a0 ≤ (500 : Int)))) (h1 : ((0 ≤ (a1 : Int)) ∧ (a1 ≤ (1 : Int)))) (h2 : (a2 = (a0 : Int))) (h3 : ((((2 * ((5 * (500 - a3)) + a4)) + a1) : Int).toNat = (k5 : Nat))) (h4 : ((a1 = (1 : Int)) → (a4 = (1 : Int)))) (h5 : ¬((a1 = (0 : Int)))) (h6 : (a6 = (a7 : Int))) (h7 : ((0 ≤ (a7 : Int)) ∧ (a7 ≤ (4 : Int)))) (h8 : ((a3 ≤ (a8 : Int)) ∧ ((a8 ≤ (a9 : Int)) ∧ ((a9 ≤ (a2 : Int)) ∧ ((a6 ≤ ((4 * (a9 - a8)) : Int)) ∧ (a6 ≤ ((5 * (a9 - a3)) : Int))))))) (h9 : ((0 ≤ (a10 : Int)) ∧ ((a10 ≤ (1 : Int)) ∧ (((a10 = (1 : Int)) → (a11 ≤ ((5 * (a12 - a9)) : Int))) ∧ (a9 ≤ (a12 : Int)))))) (h10 : ((a12 ≤ (a13 : Int)) ∧ ((a13 ≤ (a14 : Int)) ∧ ((a14 ≤ (a15 : Int)) ∧ ((a16 ≤ ((4 * (a14 - a13)) : Int)) ∧ (a16 ≤ ((5 * (a14 - a12)) : Int))))))) (h11 : ((0 ≤ (a17 : Int)) ∧ ((a17 ≤ (1 : Int)) ∧ (((a17 = (1 : Int)) → (a18 ≤ ((5 * (a19 - a14)) : Int))) ∧ (a14 ≤ (a19 : Int)))))) (h12 : (a19 = (a20 : Int))) (h13 : (a18 = (a21 : Int))) (h14 : ¬((a17 = (0 : Int)))) (h15 : (a22 = (a20 : Int))) (h16 : (a23 = (a21 : Int))) (h17 : ((0 ≤ (a24 : Int)) ∧ ((a24 ≤ (1 : Int)) ∧ ((a24 = (1 : Int)) → (a23 = (1 : Int)))))) : ((((2 * ((5 * (500 - a22)) + a23)) + a24) : Int).toNat < (k5 : Nat)) := by omega
theorem ow_68_54 (h0 : (0 = ((-1) : Int))) : False := by omega
theorem ow_68_55 {a0 : Int} (h0 : ((0 ≤ (a0 : Int)) ∧ (a0 ≤ (500 : Int)))) : (0 ≤ (a0 : Int)) := by omega
theorem ow_68_56 {a0 : Int} (h0 : ((0 ≤ (a0 : Int)) ∧ (a0 ≤ (4 : Int)))) : ((-2147483648) ≤ (a0 : Int)) := by omega
theorem ow_68_57 {a0 : Int} (h0 : ((0 ≤ (a0 : Int)) ∧ (a0 ≤ (4 : Int)))) : (a0 ≤ (2147483647 : Int)) := by omega
theorem ow_68_58 : ((-1) ≤ ((-1) : Int)) := by omega
theorem ow_68_59 : ((-1) ≤ (500 : Int)) := by omega
theorem ow_68_60 {a0 a1 a2 : Int} (h0 : (a0 ≤ (a1 : Int))) (h1 : (a1 = (a2 : Int))) (h2 : ((0 ≤ (a2 : Int)) ∧ (a2 ≤ (500 : Int)))) : (a0 ≤ (500 : Int)) := by omega
theorem ow_68_61 {a0 : Int} (h0 : ((0 ≤ (a0 : Int)) ∧ (a0 ≤ (500 : Int)))) : ((-1) ≤ (a0 : Int)) := by omega
theorem ow_68_62 {a0 : Int} (h0 : ((0 ≤ (a0 : Int)) ∧ (a0 ≤ (500 : Int)))) : (a0 ≤ (500 : Int)) := by omega
theorem ow_68_63 {a0 : Int} (h0 : ((0 ≤ (a0 : Int)) ∧ (a0 ≤ (500 : Int)))) (h1 : (a0 = ((-1) : Int))) : False := by omega
theorem ow_68_64 {a0 a1 : Int} (h0 : (a0 ≤ (a1 : Int))) : (a0 ≤ (a1 : Int)) := by omega
theorem ow_68_65 {a0 a1 a3 a4 a5 a6 a7 : Int} {k2 : Nat} (h0 : ((((5 * (500 - a0)) + a1) : Int).toNat = (k2 : Nat))) (h1 : (a0 = (a3 : Int))) (h2 : ((0 ≤ (a3 : Int)) ∧ (a3 ≤ (500 : Int)))) (h3 : (a1 = (a4 : Int))) (h4 : ((0 ≤ (a4 : Int)) ∧ (a4 ≤ (4 : Int)))) (h5 : ¬((a4 = (0 : Int)))) (h6 : ((0 ≤ (a5 : Int)) ∧ ((a5 ≤ (1 : Int)) ∧ (((a5 = (1 : Int)) → (a6 ≤ ((5 * (a7 - a0)) : Int))) ∧ (a0 ≤ (a7 : Int)))))) (h7 : ¬((a5 = (0 : Int)))) : ((((5 * (500 - a7)) + a6) : Int).toNat < (k2 : Nat)) := by omega
theorem ow_68_66 {a0 a1 a2 a3 a4 a5 a6 a7 : Int} (h0 : ((0 ≤ (a0 : Int)) ∧ ((a0 ≤ (1 : Int)) ∧ (((a0 = (1 : Int)) → (a1 ≤ ((5 * (a2 - a3)) : Int))) ∧ (a3 ≤ (a2 : Int)))))) (h1 : ((a0 = (1 : Int)) → (a4 ≤ (a5 : Int)))) (h2 : (a5 = (a6 : Int))) (h3 : (a4 = (a7 : Int))) (h4 : ¬((a0 = (0 : Int)))) : (a7 ≤ (a6 : Int)) := by omega
noncomputable def F_X12_ruleLine (V0 : pm_M) : Int × pm_M := pf_let (V0 90 33) fun y1 => pf_let (V0 90 4) fun y4 => pf_let (V0 90 1) fun y7 => pf_let (V0 90 2) fun y10 => pf_let (V0 90 3) fun y13 => pf_let (V0 90 32) fun y16 => pf_call (F_X12_isWord 11 V0) fun y22 _ => (if y22 = 0 then ((0, V0)) else ((if ¬ (y16 = 10) then (pf_call (F_X12_leads  V0) fun _ V28 => pf_let (V28 90 2) fun y39 => pf_let (V28 90 3) fun y42 => pf_let (V28 90 4) fun y45 => pf_call (F_X12_isWord 12 V28) fun y53 _ => (if y53 = 0 then (pf_call (F_X12_isWord 13 V28) fun y60 _ => (if y60 = 0 then (pf_call (F_X12_isWord 14 V28) fun y67 _ => (if y67 = 0 then (pf_call (F_X12_isWord 15 V28) fun y74 _ => (if y74 = 0 then ((0, V28)) else (pf_call (F_X12_leads  V28) fun _ V81 => pf_let (V81 90 2) fun y92 => pf_let (V81 90 3) fun y95 => pf_let (V81 90 4) fun y98 => pf_call (F_X12_isWord 16 V81) fun y106 _ => (if ¬ (y106 = 0) then (pf_val ((0 : Int), V0) (fun (q : Int × pm_M) => match q with | (x110, V112) => (pf_let (V112 90 2) fun y130 => pf_let (V112 90 3) fun y133 => pf_let (V112 90 4) fun y136 => pf_let (V112 90 33) fun y139 => (if x110 = 0 then (pf_call (F_X12_lays 7 3 V112) fun _ V144 => pf_let (V144 90 33) fun y159 => pf_let ((pm_up V144 90 32 (y16 + 1))) fun V162 => pf_call (F_X12_closes  V162) fun y178 V176 => pf_let (V176 90 2) fun y190 => pf_let (V176 90 3) fun y193 => pf_let (V176 90 4) fun y196 => (.inr (y178, V176))) else (pf_call (F_X12_leads  V112) fun _ V200 => pf_let (V200 90 2) fun y210 => pf_let (V200 90 3) fun y213 => pf_let (V200 90 4) fun y216 => pf_call (F_X12_sumHere  V200) fun y225 V223 => pf_let (V223 90 2) fun y237 => pf_let (V223 90 3) fun y240 => pf_let (V223 90 4) fun y243 => pf_let (V223 90 33) fun y246 => (if ¬ (y225 = 0) then (pf_call (F_X12_isSign 60 V223) fun y253 _ => (if y253 = 0 then (pf_call (F_X12_isSign 61 V223) fun y260 _ => (if y260 = 0 then ((.inr (0, V223))) else (pf_call (F_X12_leads  V223) fun _ V267 => pf_let (V267 90 2) fun y277 => pf_let (V267 90 3) fun y280 => pf_let (V267 90 4) fun y283 => pf_call (F_X12_sumHere  V267) fun y292 V290 => pf_let (V290 90 2) fun y304 => pf_let (V290 90 3) fun y307 => pf_let (V290 90 4) fun y310 => pf_let (V290 90 33) fun y313 => (if ¬ (y292 = 0) then (pf_call (F_X12_lays 6 0 V290) fun _ V318 => pf_let (V318 90 33) fun y333 => pf_call (F_X12_isWord 17 V318) fun y339 _ => (.inl (y339, V318))) else ((.inr (0, V290))))))) else (pf_call (F_X12_leads  V223) fun _ V344 => pf_let (V344 90 2) fun y354 => pf_let (V344 90 3) fun y357 => pf_let (V344 90 4) fun y360 => pf_call (F_X12_sumHere  V344) fun y369 V367 => pf_let (V367 90 2) fun y381 => pf_let (V367 90 3) fun y384 => pf_let (V367 90 4) fun y387 => pf_let (V367 90 33) fun y390 => (if ¬ (y369 = 0) then (pf_call (F_X12_lays 5 0 V367) fun _ V395 => pf_let (V395 90 33) fun y410 => pf_call (F_X12_isWord 17 V395) fun y416 _ => (.inl (y416, V395))) else ((.inr (0, V367))))))) else ((.inr (0, V223)))))))) (1, V81)) else ((0, V81)))))) else (pf_call (F_X12_leads  V28) fun _ V421 => pf_let (V421 90 2) fun y432 => pf_let (V421 90 3) fun y435 => pf_let (V421 90 4) fun y438 => pf_call (F_X12_isWord 16 V421) fun y446 _ => (if ¬ (y446 = 0) then (pf_val ((0 : Int), V0) (fun (q : Int × pm_M) => match q with | (x450, V452) => (pf_let (V452 90 2) fun y470 => pf_let (V452 90 3) fun y473 => pf_let (V452 90 4) fun y476 => pf_let (V452 90 33) fun y479 => (if x450 = 0 then (pf_call (F_X12_lays 7 2 V452) fun _ V484 => pf_let (V484 90 33) fun y499 => pf_let ((pm_up V484 90 32 (y16 + 1))) fun V502 => pf_call (F_X12_closes  V502) fun y518 V516 => pf_let (V516 90 2) fun y530 => pf_let (V516 90 3) fun y533 => pf_let (V516 90 4) fun y536 => (.inr (y518, V516))) else (pf_call (F_X12_leads  V452) fun _ V540 => pf_let (V540 90 2) fun y550 => pf_let (V540 90 3) fun y553 => pf_let (V540 90 4) fun y556 => pf_call (F_X12_sumHere  V540) fun y565 V563 => pf_let (V563 90 2) fun y577 => pf_let (V563 90 3) fun y580 => pf_let (V563 90 4) fun y583 => pf_let (V563 90 33) fun y586 => (if ¬ (y565 = 0) then (pf_call (F_X12_isSign 60 V563) fun y593 _ => (if y593 = 0 then (pf_call (F_X12_isSign 61 V563) fun y600 _ => (if y600 = 0 then ((.inr (0, V563))) else (pf_call (F_X12_leads  V563) fun _ V607 => pf_let (V607 90 2) fun y617 => pf_let (V607 90 3) fun y620 => pf_let (V607 90 4) fun y623 => pf_call (F_X12_sumHere  V607) fun y632 V630 => pf_let (V630 90 2) fun y644 => pf_let (V630 90 3) fun y647 => pf_let (V630 90 4) fun y650 => pf_let (V630 90 33) fun y653 => (if ¬ (y632 = 0) then (pf_call (F_X12_lays 6 0 V630) fun _ V658 => pf_let (V658 90 33) fun y673 => pf_call (F_X12_isWord 17 V658) fun y679 _ => (.inl (y679, V658))) else ((.inr (0, V630))))))) else (pf_call (F_X12_leads  V563) fun _ V684 => pf_let (V684 90 2) fun y694 => pf_let (V684 90 3) fun y697 => pf_let (V684 90 4) fun y700 => pf_call (F_X12_sumHere  V684) fun y709 V707 => pf_let (V707 90 2) fun y721 => pf_let (V707 90 3) fun y724 => pf_let (V707 90 4) fun y727 => pf_let (V707 90 33) fun y730 => (if ¬ (y709 = 0) then (pf_call (F_X12_lays 5 0 V707) fun _ V735 => pf_let (V735 90 33) fun y750 => pf_call (F_X12_isWord 17 V735) fun y756 _ => (.inl (y756, V735))) else ((.inr (0, V707))))))) else ((.inr (0, V563)))))))) (1, V421)) else ((0, V421)))))) else (pf_call (F_X12_leads  V28) fun _ V761 => pf_let (V761 90 2) fun y772 => pf_let (V761 90 3) fun y775 => pf_let (V761 90 4) fun y778 => pf_call (F_X12_isWord 16 V761) fun y786 _ => (if ¬ (y786 = 0) then (pf_val ((0 : Int), V0) (fun (q : Int × pm_M) => match q with | (x790, V792) => (pf_let (V792 90 2) fun y810 => pf_let (V792 90 3) fun y813 => pf_let (V792 90 4) fun y816 => pf_let (V792 90 33) fun y819 => (if x790 = 0 then (pf_call (F_X12_lays 7 1 V792) fun _ V824 => pf_let (V824 90 33) fun y839 => pf_let ((pm_up V824 90 32 (y16 + 1))) fun V842 => pf_call (F_X12_closes  V842) fun y858 V856 => pf_let (V856 90 2) fun y870 => pf_let (V856 90 3) fun y873 => pf_let (V856 90 4) fun y876 => (.inr (y858, V856))) else (pf_call (F_X12_leads  V792) fun _ V880 => pf_let (V880 90 2) fun y890 => pf_let (V880 90 3) fun y893 => pf_let (V880 90 4) fun y896 => pf_call (F_X12_sumHere  V880) fun y905 V903 => pf_let (V903 90 2) fun y917 => pf_let (V903 90 3) fun y920 => pf_let (V903 90 4) fun y923 => pf_let (V903 90 33) fun y926 => (if ¬ (y905 = 0) then (pf_call (F_X12_isSign 60 V903) fun y933 _ => (if y933 = 0 then (pf_call (F_X12_isSign 61 V903) fun y940 _ => (if y940 = 0 then ((.inr (0, V903))) else (pf_call (F_X12_leads  V903) fun _ V947 => pf_let (V947 90 2) fun y957 => pf_let (V947 90 3) fun y960 => pf_let (V947 90 4) fun y963 => pf_call (F_X12_sumHere  V947) fun y972 V970 => pf_let (V970 90 2) fun y984 => pf_let (V970 90 3) fun y987 => pf_let (V970 90 4) fun y990 => pf_let (V970 90 33) fun y993 => (if ¬ (y972 = 0) then (pf_call (F_X12_lays 6 0 V970) fun _ V998 => pf_let (V998 90 33) fun y1013 => pf_call (F_X12_isWord 17 V998) fun y1019 _ => (.inl (y1019, V998))) else ((.inr (0, V970))))))) else (pf_call (F_X12_leads  V903) fun _ V1024 => pf_let (V1024 90 2) fun y1034 => pf_let (V1024 90 3) fun y1037 => pf_let (V1024 90 4) fun y1040 => pf_call (F_X12_sumHere  V1024) fun y1049 V1047 => pf_let (V1047 90 2) fun y1061 => pf_let (V1047 90 3) fun y1064 => pf_let (V1047 90 4) fun y1067 => pf_let (V1047 90 33) fun y1070 => (if ¬ (y1049 = 0) then (pf_call (F_X12_lays 5 0 V1047) fun _ V1075 => pf_let (V1075 90 33) fun y1090 => pf_call (F_X12_isWord 17 V1075) fun y1096 _ => (.inl (y1096, V1075))) else ((.inr (0, V1047))))))) else ((.inr (0, V903)))))))) (1, V761)) else ((0, V761)))))) else (pf_call (F_X12_leads  V28) fun _ V1101 => pf_let (V1101 90 2) fun y1112 => pf_let (V1101 90 3) fun y1115 => pf_let (V1101 90 4) fun y1118 => pf_call (F_X12_isWord 16 V1101) fun y1126 _ => (if ¬ (y1126 = 0) then (pf_val ((0 : Int), V0) (fun (q : Int × pm_M) => match q with | (x1130, V1132) => (pf_let (V1132 90 2) fun y1150 => pf_let (V1132 90 3) fun y1153 => pf_let (V1132 90 4) fun y1156 => pf_let (V1132 90 33) fun y1159 => (if x1130 = 0 then (pf_call (F_X12_lays 7 0 V1132) fun _ V1164 => pf_let (V1164 90 33) fun y1179 => pf_let ((pm_up V1164 90 32 (y16 + 1))) fun V1182 => pf_call (F_X12_closes  V1182) fun y1198 V1196 => pf_let (V1196 90 2) fun y1210 => pf_let (V1196 90 3) fun y1213 => pf_let (V1196 90 4) fun y1216 => (.inr (y1198, V1196))) else (pf_call (F_X12_leads  V1132) fun _ V1220 => pf_let (V1220 90 2) fun y1230 => pf_let (V1220 90 3) fun y1233 => pf_let (V1220 90 4) fun y1236 => pf_call (F_X12_sumHere  V1220) fun y1245 V1243 => pf_let (V1243 90 2) fun y1257 => pf_let (V1243 90 3) fun y1260 => pf_let (V1243 90 4) fun y1263 => pf_let (V1243 90 33) fun y1266 => (if ¬ (y1245 = 0) then (pf_call (F_X12_isSign 60 V1243) fun y1273 _ => (if y1273 = 0 then (pf_call (F_X12_isSign 61 V1243) fun y1280 _ => (if y1280 = 0 then ((.inr (0, V1243))) else (pf_call (F_X12_leads  V1243) fun _ V1287 => pf_let (V1287 90 2) fun y1297 => pf_let (V1287 90 3) fun y1300 => pf_let (V1287 90 4) fun y1303 => pf_call (F_X12_sumHere  V1287) fun y1312 V1310 => pf_let (V1310 90 2) fun y1324 => pf_let (V1310 90 3) fun y1327 => pf_let (V1310 90 4) fun y1330 => pf_let (V1310 90 33) fun y1333 => (if ¬ (y1312 = 0) then (pf_call (F_X12_lays 6 0 V1310) fun _ V1338 => pf_let (V1338 90 33) fun y1353 => pf_call (F_X12_isWord 17 V1338) fun y1359 _ => (.inl (y1359, V1338))) else ((.inr (0, V1310))))))) else (pf_call (F_X12_leads  V1243) fun _ V1364 => pf_let (V1364 90 2) fun y1374 => pf_let (V1364 90 3) fun y1377 => pf_let (V1364 90 4) fun y1380 => pf_call (F_X12_sumHere  V1364) fun y1389 V1387 => pf_let (V1387 90 2) fun y1401 => pf_let (V1387 90 3) fun y1404 => pf_let (V1387 90 4) fun y1407 => pf_let (V1387 90 33) fun y1410 => (if ¬ (y1389 = 0) then (pf_call (F_X12_lays 5 0 V1387) fun _ V1415 => pf_let (V1415 90 33) fun y1430 => pf_call (F_X12_isWord 17 V1415) fun y1436 _ => (.inl (y1436, V1415))) else ((.inr (0, V1387))))))) else ((.inr (0, V1243)))))))) (1, V1101)) else ((0, V1101)))))) else ((0, V0)))))
theorem F_X12_ruleLine_eq (V0 : pm_M) : F_X12_ruleLine V0 = pf_let (V0 90 33) fun y1 => pf_let (V0 90 4) fun y4 => pf_let (V0 90 1) fun y7 => pf_let (V0 90 2) fun y10 => pf_let (V0 90 3) fun y13 => pf_let (V0 90 32) fun y16 => pf_call (F_X12_isWord 11 V0) fun y22 _ => (if y22 = 0 then ((0, V0)) else ((if ¬ (y16 = 10) then (pf_call (F_X12_leads  V0) fun _ V28 => pf_let (V28 90 2) fun y39 => pf_let (V28 90 3) fun y42 => pf_let (V28 90 4) fun y45 => pf_call (F_X12_isWord 12 V28) fun y53 _ => (if y53 = 0 then (pf_call (F_X12_isWord 13 V28) fun y60 _ => (if y60 = 0 then (pf_call (F_X12_isWord 14 V28) fun y67 _ => (if y67 = 0 then (pf_call (F_X12_isWord 15 V28) fun y74 _ => (if y74 = 0 then ((0, V28)) else (pf_call (F_X12_leads  V28) fun _ V81 => pf_let (V81 90 2) fun y92 => pf_let (V81 90 3) fun y95 => pf_let (V81 90 4) fun y98 => pf_call (F_X12_isWord 16 V81) fun y106 _ => (if ¬ (y106 = 0) then (pf_val ((0 : Int), V0) (fun (q : Int × pm_M) => match q with | (x110, V112) => (pf_let (V112 90 2) fun y130 => pf_let (V112 90 3) fun y133 => pf_let (V112 90 4) fun y136 => pf_let (V112 90 33) fun y139 => (if x110 = 0 then (pf_call (F_X12_lays 7 3 V112) fun _ V144 => pf_let (V144 90 33) fun y159 => pf_let ((pm_up V144 90 32 (y16 + 1))) fun V162 => pf_call (F_X12_closes  V162) fun y178 V176 => pf_let (V176 90 2) fun y190 => pf_let (V176 90 3) fun y193 => pf_let (V176 90 4) fun y196 => (.inr (y178, V176))) else (pf_call (F_X12_leads  V112) fun _ V200 => pf_let (V200 90 2) fun y210 => pf_let (V200 90 3) fun y213 => pf_let (V200 90 4) fun y216 => pf_call (F_X12_sumHere  V200) fun y225 V223 => pf_let (V223 90 2) fun y237 => pf_let (V223 90 3) fun y240 => pf_let (V223 90 4) fun y243 => pf_let (V223 90 33) fun y246 => (if ¬ (y225 = 0) then (pf_call (F_X12_isSign 60 V223) fun y253 _ => (if y253 = 0 then (pf_call (F_X12_isSign 61 V223) fun y260 _ => (if y260 = 0 then ((.inr (0, V223))) else (pf_call (F_X12_leads  V223) fun _ V267 => pf_let (V267 90 2) fun y277 => pf_let (V267 90 3) fun y280 => pf_let (V267 90 4) fun y283 => pf_call (F_X12_sumHere  V267) fun y292 V290 => pf_let (V290 90 2) fun y304 => pf_let (V290 90 3) fun y307 => pf_let (V290 90 4) fun y310 => pf_let (V290 90 33) fun y313 => (if ¬ (y292 = 0) then (pf_call (F_X12_lays 6 0 V290) fun _ V318 => pf_let (V318 90 33) fun y333 => pf_call (F_X12_isWord 17 V318) fun y339 _ => (.inl (y339, V318))) else ((.inr (0, V290))))))) else (pf_call (F_X12_leads  V223) fun _ V344 => pf_let (V344 90 2) fun y354 => pf_let (V344 90 3) fun y357 => pf_let (V344 90 4) fun y360 => pf_call (F_X12_sumHere  V344) fun y369 V367 => pf_let (V367 90 2) fun y381 => pf_let (V367 90 3) fun y384 => pf_let (V367 90 4) fun y387 => pf_let (V367 90 33) fun y390 => (if ¬ (y369 = 0) then (pf_call (F_X12_lays 5 0 V367) fun _ V395 => pf_let (V395 90 33) fun y410 => pf_call (F_X12_isWord 17 V395) fun y416 _ => (.inl (y416, V395))) else ((.inr (0, V367))))))) else ((.inr (0, V223)))))))) (1, V81)) else ((0, V81)))))) else (pf_call (F_X12_leads  V28) fun _ V421 => pf_let (V421 90 2) fun y432 => pf_let (V421 90 3) fun y435 => pf_let (V421 90 4) fun y438 => pf_call (F_X12_isWord 16 V421) fun y446 _ => (if ¬ (y446 = 0) then (pf_val ((0 : Int), V0) (fun (q : Int × pm_M) => match q with | (x450, V452) => (pf_let (V452 90 2) fun y470 => pf_let (V452 90 3) fun y473 => pf_let (V452 90 4) fun y476 => pf_let (V452 90 33) fun y479 => (if x450 = 0 then (pf_call (F_X12_lays 7 2 V452) fun _ V484 => pf_let (V484 90 33) fun y499 => pf_let ((pm_up V484 90 32 (y16 + 1))) fun V502 => pf_call (F_X12_closes  V502) fun y518 V516 => pf_let (V516 90 2) fun y530 => pf_let (V516 90 3) fun y533 => pf_let (V516 90 4) fun y536 => (.inr (y518, V516))) else (pf_call (F_X12_leads  V452) fun _ V540 => pf_let (V540 90 2) fun y550 => pf_let (V540 90 3) fun y553 => pf_let (V540 90 4) fun y556 => pf_call (F_X12_sumHere  V540) fun y565 V563 => pf_let (V563 90 2) fun y577 => pf_let (V563 90 3) fun y580 => pf_let (V563 90 4) fun y583 => pf_let (V563 90 33) fun y586 => (if ¬ (y565 = 0) then (pf_call (F_X12_isSign 60 V563) fun y593 _ => (if y593 = 0 then (pf_call (F_X12_isSign 61 V563) fun y600 _ => (if y600 = 0 then ((.inr (0, V563))) else (pf_call (F_X12_leads  V563) fun _ V607 => pf_let (V607 90 2) fun y617 => pf_let (V607 90 3) fun y620 => pf_let (V607 90 4) fun y623 => pf_call (F_X12_sumHere  V607) fun y632 V630 => pf_let (V630 90 2) fun y644 => pf_let (V630 90 3) fun y647 => pf_let (V630 90 4) fun y650 => pf_let (V630 90 33) fun y653 => (if ¬ (y632 = 0) then (pf_call (F_X12_lays 6 0 V630) fun _ V658 => pf_let (V658 90 33) fun y673 => pf_call (F_X12_isWord 17 V658) fun y679 _ => (.inl (y679, V658))) else ((.inr (0, V630))))))) else (pf_call (F_X12_leads  V563) fun _ V684 => pf_let (V684 90 2) fun y694 => pf_let (V684 90 3) fun y697 => pf_let (V684 90 4) fun y700 => pf_call (F_X12_sumHere  V684) fun y709 V707 => pf_let (V707 90 2) fun y721 => pf_let (V707 90 3) fun y724 => pf_let (V707 90 4) fun y727 => pf_let (V707 90 33) fun y730 => (if ¬ (y709 = 0) then (pf_call (F_X12_lays 5 0 V707) fun _ V735 => pf_let (V735 90 33) fun y750 => pf_call (F_X12_isWord 17 V735) fun y756 _ => (.inl (y756, V735))) else ((.inr (0, V707))))))) else ((.inr (0, V563)))))))) (1, V421)) else ((0, V421)))))) else (pf_call (F_X12_leads  V28) fun _ V761 => pf_let (V761 90 2) fun y772 => pf_let (V761 90 3) fun y775 => pf_let (V761 90 4) fun y778 => pf_call (F_X12_isWord 16 V761) fun y786 _ => (if ¬ (y786 = 0) then (pf_val ((0 : Int), V0) (fun (q : Int × pm_M) => match q with | (x790, V792) => (pf_let (V792 90 2) fun y810 => pf_let (V792 90 3) fun y813 => pf_let (V792 90 4) fun y816 => pf_let (V792 90 33) fun y819 => (if x790 = 0 then (pf_call (F_X12_lays 7 1 V792) fun _ V824 => pf_let (V824 90 33) fun y839 => pf_let ((pm_up V824 90 32 (y16 + 1))) fun V842 => pf_call (F_X12_closes  V842) fun y858 V856 => pf_let (V856 90 2) fun y870 => pf_let (V856 90 3) fun y873 => pf_let (V856 90 4) fun y876 => (.inr (y858, V856))) else (pf_call (F_X12_leads  V792) fun _ V880 => pf_let (V880 90 2) fun y890 => pf_let (V880 90 3) fun y893 => pf_let (V880 90 4) fun y896 => pf_call (F_X12_sumHere  V880) fun y905 V903 => pf_let (V903 90 2) fun y917 => pf_let (V903 90 3) fun y920 => pf_let (V903 90 4) fun y923 => pf_let (V903 90 33) fun y926 => (if ¬ (y905 = 0) then (pf_call (F_X12_isSign 60 V903) fun y933 _ => (if y933 = 0 then (pf_call (F_X12_isSign 61 V903) fun y940 _ => (if y940 = 0 then ((.inr (0, V903))) else (pf_call (F_X12_leads  V903) fun _ V947 => pf_let (V947 90 2) fun y957 => pf_let (V947 90 3) fun y960 => pf_let (V947 90 4) fun y963 => pf_call (F_X12_sumHere  V947) fun y972 V970 => pf_let (V970 90 2) fun y984 => pf_let (V970 90 3) fun y987 => pf_let (V970 90 4) fun y990 => pf_let (V970 90 33) fun y993 => (if ¬ (y972 = 0) then (pf_call (F_X12_lays 6 0 V970) fun _ V998 => pf_let (V998 90 33) fun y1013 => pf_call (F_X12_isWord 17 V998) fun y1019 _ => (.inl (y1019, V998))) else ((.inr (0, V970))))))) else (pf_call (F_X12_leads  V903) fun _ V1024 => pf_let (V1024 90 2) fun y1034 => pf_let (V1024 90 3) fun y1037 => pf_let (V1024 90 4) fun y1040 => pf_call (F_X12_sumHere  V1024) fun y1049 V1047 => pf_let (V1047 90 2) fun y1061 => pf_let (V1047 90 3) fun y1064 => pf_let (V1047 90 4) fun y1067 => pf_let (V1047 90 33) fun y1070 => (if ¬ (y1049 = 0) then (pf_call (F_X12_lays 5 0 V1047) fun _ V1075 => pf_let (V1075 90 33) fun y1090 => pf_call (F_X12_isWord 17 V1075) fun y1096 _ => (.inl (y1096, V1075))) else ((.inr (0, V1047))))))) else ((.inr (0, V903)))))))) (1, V761)) else ((0, V761)))))) else (pf_call (F_X12_leads  V28) fun _ V1101 => pf_let (V1101 90 2) fun y1112 => pf_let (V1101 90 3) fun y1115 => pf_let (V1101 90 4) fun y1118 => pf_call (F_X12_isWord 16 V1101) fun y1126 _ => (if ¬ (y1126 = 0) then (pf_val ((0 : Int), V0) (fun (q : Int × pm_M) => match q with | (x1130, V1132) => (pf_let (V1132 90 2) fun y1150 => pf_let (V1132 90 3) fun y1153 => pf_let (V1132 90 4) fun y1156 => pf_let (V1132 90 33) fun y1159 => (if x1130 = 0 then (pf_call (F_X12_lays 7 0 V1132) fun _ V1164 => pf_let (V1164 90 33) fun y1179 => pf_let ((pm_up V1164 90 32 (y16 + 1))) fun V1182 => pf_call (F_X12_closes  V1182) fun y1198 V1196 => pf_let (V1196 90 2) fun y1210 => pf_let (V1196 90 3) fun y1213 => pf_let (V1196 90 4) fun y1216 => (.inr (y1198, V1196))) else (pf_call (F_X12_leads  V1132) fun _ V1220 => pf_let (V1220 90 2) fun y1230 => pf_let (V1220 90 3) fun y1233 => pf_let (V1220 90 4) fun y1236 => pf_call (F_X12_sumHere  V1220) fun y1245 V1243 => pf_let (V1243 90 2) fun y1257 => pf_let (V1243 90 3) fun y1260 => pf_let (V1243 90 4) fun y1263 => pf_let (V1243 90 33) fun y1266 => (if ¬ (y1245 = 0) then (pf_call (F_X12_isSign 60 V1243) fun y1273 _ => (if y1273 = 0 then (pf_call (F_X12_isSign 61 V1243) fun y1280 _ => (if y1280 = 0 then ((.inr (0, V1243))) else (pf_call (F_X12_leads  V1243) fun _ V1287 => pf_let (V1287 90 2) fun y1297 => pf_let (V1287 90 3) fun y1300 => pf_let (V1287 90 4) fun y1303 => pf_call (F_X12_sumHere  V1287) fun y1312 V1310 => pf_let (V1310 90 2) fun y1324 => pf_let (V1310 90 3) fun y1327 => pf_let (V1310 90 4) fun y1330 => pf_let (V1310 90 33) fun y1333 => (if ¬ (y1312 = 0) then (pf_call (F_X12_lays 6 0 V1310) fun _ V1338 => pf_let (V1338 90 33) fun y1353 => pf_call (F_X12_isWord 17 V1338) fun y1359 _ => (.inl (y1359, V1338))) else ((.inr (0, V1310))))))) else (pf_call (F_X12_leads  V1243) fun _ V1364 => pf_let (V1364 90 2) fun y1374 => pf_let (V1364 90 3) fun y1377 => pf_let (V1364 90 4) fun y1380 => pf_call (F_X12_sumHere  V1364) fun y1389 V1387 => pf_let (V1387 90 2) fun y1401 => pf_let (V1387 90 3) fun y1404 => pf_let (V1387 90 4) fun y1407 => pf_let (V1387 90 33) fun y1410 => (if ¬ (y1389 = 0) then (pf_call (F_X12_lays 5 0 V1387) fun _ V1415 => pf_let (V1415 90 33) fun y1430 => pf_call (F_X12_isWord 17 V1415) fun y1436 _ => (.inl (y1436, V1415))) else ((.inr (0, V1387))))))) else ((.inr (0, V1243)))))))) (1, V1101)) else ((0, V1101)))))) else ((0, V0))))) := rfl
noncomputable def F_X12_rulesFault (V0 : pm_M) : Int × pm_M := pf_let ((pm_up (pm_up (pm_up V0 90 32 0) 90 33 0) 90 2 0)) fun V1 => pf_let (V1 90 1) fun y8 => pf_let (V1 90 3) fun y13 => pf_let (V1 90 4) fun y16 => pf_call (F_X12_leads  V1) fun _ V20 => pf_let (V20 90 2) fun y31 => pf_let (V20 90 3) fun y34 => pf_let (V20 90 4) fun y37 => pf_val ((0 : Int), V0) (fun (q : pm_M) => match q with | V42 => (pf_let (V42 90 2) fun y57 => pf_let (V42 90 3) fun y60 => pf_let (V42 90 4) fun y63 => pf_let (V42 90 33) fun y66 => (if y60 = 0 then (pf_let (V42 90 32) fun y70 => (if ¬ (y70 = 0) then ((.inr ((-1), V42))) else ((.inr (y63, V42))))) else (pf_call (F_X12_ruleLine  V42) fun y77 V75 => pf_let (V75 90 2) fun y88 => pf_let (V75 90 3) fun y91 => pf_let (V75 90 4) fun y94 => pf_let (V75 90 33) fun y97 => (if ¬ (y77 = 0) then ((.inl V75)) else ((.inr (y94, V75)))))))) V20
theorem F_X12_rulesFault_eq (V0 : pm_M) : F_X12_rulesFault V0 = pf_let ((pm_up (pm_up (pm_up V0 90 32 0) 90 33 0) 90 2 0)) fun V1 => pf_let (V1 90 1) fun y8 => pf_let (V1 90 3) fun y13 => pf_let (V1 90 4) fun y16 => pf_call (F_X12_leads  V1) fun _ V20 => pf_let (V20 90 2) fun y31 => pf_let (V20 90 3) fun y34 => pf_let (V20 90 4) fun y37 => pf_val ((0 : Int), V0) (fun (q : pm_M) => match q with | V42 => (pf_let (V42 90 2) fun y57 => pf_let (V42 90 3) fun y60 => pf_let (V42 90 4) fun y63 => pf_let (V42 90 33) fun y66 => (if y60 = 0 then (pf_let (V42 90 32) fun y70 => (if ¬ (y70 = 0) then ((.inr ((-1), V42))) else ((.inr (y63, V42))))) else (pf_call (F_X12_ruleLine  V42) fun y77 V75 => pf_let (V75 90 2) fun y88 => pf_let (V75 90 3) fun y91 => pf_let (V75 90 4) fun y94 => pf_let (V75 90 33) fun y97 => (if ¬ (y77 = 0) then ((.inl V75)) else ((.inr (y94, V75)))))))) V20 := rfl
set_option maxHeartbeats 4000000 in
set_option maxRecDepth 100000 in
theorem fP_X12_ruleLine  : pm_K 8 yX12_ruleLine cX12_ruleLine 4 (some .boolean) (fun av V => av = [(3, 90)] ∧ pm_oq pm_qP V ∧ (V 90 33 ≤ V 90 4) ∧ pm_az V ∧ pm_tk V ∧ pm_RLn V) (fun _ V r V' => ∃ y, r = some (0, y) ∧ (0 ≤ y ∧ y ≤ 1 ∧ (y = 1 → V' 90 3 ≤ 5 * (V' 90 2 - V 90 2)) ∧ (V 90 2 ≤ V' 90 2)) ∧ pm_oq pm_qP V' ∧ pm_fs [107, 109] [2, 3, 4, 5, 32, 33, 37, 39] V V' ∧ pm_az V' ∧ pm_tk V' ∧ (y = 1 → pm_RLn V') ∧ (y = 1 → V' 90 33 ≤ V' 90 4) ∧ F_X12_ruleLine  V = (y, V')) := by
  refine pm_MT.of (by decide) ⟨Nat.le_refl _, by decide⟩ (fun av V h => by rw [h.1]; exact (by decide : pm_words [(3, 0)] ≤ 4)) ?_
  rintro X av V0 hC - hR ⟨rfl, hV0, hmp0, hn_pm_az, hn_pm_tk, hn_pm_RLn⟩
  change pm_J X 0 [(0, (3, 90))] [] 118 V0
  have hT := F_X12_ruleLine_eq  V0
  obtain ⟨y1, e2⟩ : ∃ y, V0 90 33 = y := ⟨_, rfl⟩
  have b3 := hV0.get 90 33 (lo := 0) (hi := 600) (by decide) (by decide) rfl
  rw [e2] at b3
  replace hT := hT.trans (pf_let_eq e2)
  obtain ⟨y4, e5⟩ : ∃ y, V0 90 4 = y := ⟨_, rfl⟩
  have b6 := hV0.get 90 4 (lo := 0) (hi := 500) (by decide) (by decide) rfl
  rw [e5] at b6
  replace hT := hT.trans (pf_let_eq e5)
  obtain ⟨y7, e8⟩ : ∃ y, V0 90 1 = y := ⟨_, rfl⟩
  have b9 := hV0.get 90 1 (lo := 0) (hi := 500) (by decide) (by decide) rfl
  rw [e8] at b9
  replace hT := hT.trans (pf_let_eq e8)
  obtain ⟨y10, e11⟩ : ∃ y, V0 90 2 = y := ⟨_, rfl⟩
  have b12 := hV0.get 90 2 (lo := 0) (hi := 500) (by decide) (by decide) rfl
  rw [e11] at b12
  replace hT := hT.trans (pf_let_eq e11)
  obtain ⟨y13, e14⟩ : ∃ y, V0 90 3 = y := ⟨_, rfl⟩
  have b15 := hV0.get 90 3 (lo := 0) (hi := 4) (by decide) (by decide) rfl
  rw [e14] at b15
  replace hT := hT.trans (pf_let_eq e14)
  obtain ⟨y16, e17⟩ : ∃ y, V0 90 32 = y := ⟨_, rfl⟩
  have b18 := hV0.get 90 32 (lo := 0) (hi := 10) (by decide) (by decide) rfl
  rw [e17] at b18
  replace hT := hT.trans (pf_let_eq e17)
  have hsz := hn_pm_az
  unfold pm_az at hsz
  rw [e11, e8] at hsz
  have htk := hn_pm_tk
  unfold pm_tk at htk
  have hRX := hn_pm_RLn
  unfold pm_RLn at hRX
  refine pm_aload_n hC 0 (by decide) dX12_ruleLine_0 rfl ?_
  refine pm_ldcwS (tx := "call") (q := 11) hC (by decide) dX12_ruleLine_1 ?_
  change pm_J X 4 [(0, (3, 90))] [(4, 11), (3, 90)] 118 V0
  refine pm_callV (ci := 12) (as := [(4, 11)]) (st := []) hC 90 (fP_X12_isWord 11 ⟨by decide, by decide⟩) lm_X12_156 li_X12_isWord (by decide) (by decide) rfl rfl rfl (by decide) rfl rfl (Nat.le_of_ble_eq_true rfl) ⟨Nat.le_refl _, Or.inl rfl⟩ dX12_ruleLine_4 ⟨rfl, hV0⟩ (fun r19 V20 hp21 => ?_)
  obtain ⟨y22, rfl, b23, rfl, hE24⟩ := hp21
  replace hT := hT.trans (pf_call_eq hE24)
  change pm_J X 7 [(0, (3, 90))] [(0, y22)] 118 V0
  refine pm_if_eq (tgt := 19) hC ⟨by exact ow_68_0 b23, by exact ow_68_1 b23⟩ dX12_ruleLine_7 (by decide) (fun c25 => ?_) (fun c25 => ?_)
  · skip
    replace hT := hT.trans (if_pos c25)
    refine pm_iconst (v := 0) hC dX12_ruleLine_19 ?_
    exact pm_iret hC hR (pm_narZ (by exact ow_68_2)) ⟨0, rfl, ⟨by exact ow_68_3, by exact ow_68_4, by exact ow_68_5, by exact ow_68_6⟩, hV0, (pm_fs.rf (cs := [107, 109]) (fs := [2, 3, 4, 5, 32, 33, 37, 39]) (V := V0)), hn_pm_az, hn_pm_tk, (fun q => absurd q (by decide)), (fun q => absurd q (by decide)), hT⟩ dX12_ruleLine_20
  · skip
    replace hT := hT.trans (if_neg c25)
    refine pm_aload_n hC 0 (by decide) dX12_ruleLine_10 rfl ?_
    refine pm_getf (v := y16) hC 90 fl_X12_271 rfl rfl (by decide) rfl e17 dX12_ruleLine_11 ?_
    refine pm_bipush (v := 10) hC dX12_ruleLine_14 (by decide) ?_
    refine pm_icmp_ne (tgt := 21) hC ⟨by exact ow_68_7 b18, by exact ow_68_8 b18⟩ ⟨by decide, by decide⟩ dX12_ruleLine_16 (by decide) (fun c26 => ?_) (fun c26 => ?_)
    · skip
      replace hT := hT.trans (if_pos c26)
      refine pm_aload_n hC 0 (by decide) dX12_ruleLine_21 rfl ?_
      refine pm_callV (ci := 12) (as := []) (st := []) hC 90 fP_X12_leads lm_X12_148 li_X12_leads (by decide) (by decide) rfl rfl rfl (by decide) rfl rfl (Nat.le_of_ble_eq_true rfl) ⟨Nat.le_refl _, Or.inl rfl⟩ dX12_ruleLine_22 ⟨rfl, hV0, hn_pm_az⟩ (fun r27 V28 hp29 => ?_)
      obtain ⟨rfl, hV30, hF31, hg32, hE33⟩ := hp29
      replace hT := hT.trans (pf_call_eq hE33)
      change pm_J X 25 [(0, (3, 90))] [] 118 V28
      have hF34 := pm_fs.tr (pm_fs.rf (cs := [107, 109]) (fs := [2, 3, 4, 5, 32, 33, 37, 39]) (V := V0)) hF31 (by decide) (by decide)
      have e35 : V28 90 33 = y1 := by rw [hF31.2 33 (by decide)]; exact e2
      have e36 : V28 90 1 = y7 := by rw [hF31.2 1 (by decide)]; exact e8
      have e37 : V28 90 32 = y16 := by rw [hF31.2 32 (by decide)]; exact e17
      have hp38 : pm_RLn V28 := (pm_RLn.fr hn_pm_RLn (hF31.2 32 (by decide)) (hF31.2 33 (by decide)) (hF31.1 107 (by decide) (by decide)))
      obtain ⟨y39, e40⟩ : ∃ y, V28 90 2 = y := ⟨_, rfl⟩
      have b41 := hV30.get 90 2 (lo := 0) (hi := 500) (by decide) (by decide) rfl
      rw [e40] at b41
      replace hT := hT.trans (pf_let_eq e40)
      obtain ⟨y42, e43⟩ : ∃ y, V28 90 3 = y := ⟨_, rfl⟩
      have b44 := hV30.get 90 3 (lo := 0) (hi := 4) (by decide) (by decide) rfl
      rw [e43] at b44
      replace hT := hT.trans (pf_let_eq e43)
      obtain ⟨y45, e46⟩ : ∃ y, V28 90 4 = y := ⟨_, rfl⟩
      have b47 := hV30.get 90 4 (lo := 0) (hi := 500) (by decide) (by decide) rfl
      rw [e46] at b47
      replace hT := hT.trans (pf_let_eq e46)
      have hpr48 := r_leads_pr hV0 hn_pm_az hE33
      have htk49 : pm_tk V28 := hpr48.2.2.2.1
      have hRX := hRX.fr (hF31.1 107 (by decide) (by decide)) (hF31.2 33 (by decide))
      refine pm_aload_n hC 0 (by decide) dX12_ruleLine_25 rfl ?_
      refine pm_ldcwS (tx := "fused") (q := 12) hC (by decide) dX12_ruleLine_26 ?_
      change pm_J X 29 [(0, (3, 90))] [(4, 12), (3, 90)] 118 V28
      refine pm_callV (ci := 12) (as := [(4, 12)]) (st := []) hC 90 (fP_X12_isWord 12 ⟨by decide, by decide⟩) lm_X12_156 li_X12_isWord (by decide) (by decide) rfl rfl rfl (by decide) rfl rfl (Nat.le_of_ble_eq_true rfl) ⟨Nat.le_refl _, Or.inl rfl⟩ dX12_ruleLine_29 ⟨rfl, hV30⟩ (fun r50 V51 hp52 => ?_)
      obtain ⟨y53, rfl, b54, rfl, hE55⟩ := hp52
      replace hT := hT.trans (pf_call_eq hE55)
      change pm_J X 32 [(0, (3, 90))] [(0, y53)] 118 V28
      refine pm_if_eq (tgt := 39) hC ⟨by exact ow_68_0 b54, by exact ow_68_1 b54⟩ dX12_ruleLine_32 (by decide) (fun c56 => ?_) (fun c56 => ?_)
      · skip
        replace hT := hT.trans (if_pos c56)
        refine pm_aload_n hC 0 (by decide) dX12_ruleLine_39 rfl ?_
        refine pm_ldcwS (tx := "apart") (q := 13) hC (by decide) dX12_ruleLine_40 ?_
        change pm_J X 43 [(0, (3, 90))] [(4, 13), (3, 90)] 118 V28
        refine pm_callV (ci := 12) (as := [(4, 13)]) (st := []) hC 90 (fP_X12_isWord 13 ⟨by decide, by decide⟩) lm_X12_156 li_X12_isWord (by decide) (by decide) rfl rfl rfl (by decide) rfl rfl (Nat.le_of_ble_eq_true rfl) ⟨Nat.le_refl _, Or.inl rfl⟩ dX12_ruleLine_43 ⟨rfl, hV30⟩ (fun r57 V58 hp59 => ?_)
        obtain ⟨y60, rfl, b61, rfl, hE62⟩ := hp59
        replace hT := hT.trans (pf_call_eq hE62)
        change pm_J X 46 [(0, (3, 90))] [(0, y60)] 118 V28
        refine pm_if_eq (tgt := 53) hC ⟨by exact ow_68_0 b61, by exact ow_68_1 b61⟩ dX12_ruleLine_46 (by decide) (fun c63 => ?_) (fun c63 => ?_)
        · skip
          replace hT := hT.trans (if_pos c63)
          refine pm_aload_n hC 0 (by decide) dX12_ruleLine_53 rfl ?_
          refine pm_ldcwS (tx := "heard") (q := 14) hC (by decide) dX12_ruleLine_54 ?_
          change pm_J X 57 [(0, (3, 90))] [(4, 14), (3, 90)] 118 V28
          refine pm_callV (ci := 12) (as := [(4, 14)]) (st := []) hC 90 (fP_X12_isWord 14 ⟨by decide, by decide⟩) lm_X12_156 li_X12_isWord (by decide) (by decide) rfl rfl rfl (by decide) rfl rfl (Nat.le_of_ble_eq_true rfl) ⟨Nat.le_refl _, Or.inl rfl⟩ dX12_ruleLine_57 ⟨rfl, hV30⟩ (fun r64 V65 hp66 => ?_)
          obtain ⟨y67, rfl, b68, rfl, hE69⟩ := hp66
          replace hT := hT.trans (pf_call_eq hE69)
          change pm_J X 60 [(0, (3, 90))] [(0, y67)] 118 V28
          refine pm_if_eq (tgt := 67) hC ⟨by exact ow_68_0 b68, by exact ow_68_1 b68⟩ dX12_ruleLine_60 (by decide) (fun c70 => ?_) (fun c70 => ?_)
          · skip
            replace hT := hT.trans (if_pos c70)
            refine pm_aload_n hC 0 (by decide) dX12_ruleLine_67 rfl ?_
            refine pm_ldcwS (tx := "seen") (q := 15) hC (by decide) dX12_ruleLine_68 ?_
            change pm_J X 71 [(0, (3, 90))] [(4, 15), (3, 90)] 118 V28
            refine pm_callV (ci := 12) (as := [(4, 15)]) (st := []) hC 90 (fP_X12_isWord 15 ⟨by decide, by decide⟩) lm_X12_156 li_X12_isWord (by decide) (by decide) rfl rfl rfl (by decide) rfl rfl (Nat.le_of_ble_eq_true rfl) ⟨Nat.le_refl _, Or.inl rfl⟩ dX12_ruleLine_71 ⟨rfl, hV30⟩ (fun r71 V72 hp73 => ?_)
            obtain ⟨y74, rfl, b75, rfl, hE76⟩ := hp73
            replace hT := hT.trans (pf_call_eq hE76)
            change pm_J X 74 [(0, (3, 90))] [(0, y74)] 118 V28
            refine pm_if_eq (tgt := 81) hC ⟨by exact ow_68_0 b75, by exact ow_68_1 b75⟩ dX12_ruleLine_74 (by decide) (fun c77 => ?_) (fun c77 => ?_)
            · skip
              replace hT := hT.trans (if_pos c77)
              refine pm_iconst (v := (-1)) hC dX12_ruleLine_81 ?_
              refine pm_istore_n (lv' := [(1, (0, (-1))), (0, (3, 90))]) hC dX12_ruleLine_82 (by decide) rfl ?_
              refine pm_iload_n hC 0 dX12_ruleLine_83 rfl ?_
              refine pm_iconst (v := (-1)) hC dX12_ruleLine_84 ?_
              refine pm_icmp_ne (tgt := 90) hC ⟨by decide, by decide⟩ ⟨by decide, by decide⟩ dX12_ruleLine_85 (by decide) (fun c78 => ?_) (fun c78 => ?_)
              · skip
                exfalso; exact ow_68_9 c78
              · skip
                refine pm_iconst (v := 0) hC dX12_ruleLine_88 ?_
                exact pm_iret hC hR (pm_narZ (by exact ow_68_2)) ⟨0, rfl, ⟨by exact ow_68_3, by exact ow_68_4, by exact ow_68_10, by exact ow_68_11 e43 b44 hpr48⟩, hV30, hF34, hg32, htk49, (fun q => absurd q (by decide)), (fun q => absurd q (by decide)), hT⟩ dX12_ruleLine_89
            · skip
              replace hT := hT.trans (if_neg c77)
              refine pm_iconst (v := 3) hC dX12_ruleLine_77 ?_
              refine pm_goto (tgt := 82) hC dX12_ruleLine_78 (by decide) ?_
              refine pm_istore_n (lv' := [(1, (0, 3)), (0, (3, 90))]) hC dX12_ruleLine_82 (by decide) rfl ?_
              refine pm_iload_n hC 0 dX12_ruleLine_83 rfl ?_
              refine pm_iconst (v := (-1)) hC dX12_ruleLine_84 ?_
              refine pm_icmp_ne (tgt := 90) hC ⟨by decide, by decide⟩ ⟨by decide, by decide⟩ dX12_ruleLine_85 (by decide) (fun c79 => ?_) (fun c79 => ?_)
              · skip
                refine pm_aload_n hC 1 (by decide) dX12_ruleLine_90 rfl ?_
                refine pm_callV (ci := 12) (as := []) (st := []) hC 90 fP_X12_leads lm_X12_148 li_X12_leads (by decide) (by decide) rfl rfl rfl (by decide) rfl rfl (Nat.le_of_ble_eq_true rfl) ⟨Nat.le_refl _, Or.inl rfl⟩ dX12_ruleLine_91 ⟨rfl, hV30, hg32⟩ (fun r80 V81 hp82 => ?_)
                obtain ⟨rfl, hV83, hF84, hg85, hE86⟩ := hp82
                replace hT := hT.trans (pf_call_eq hE86)
                change pm_J X 94 [(1, (0, 3)), (0, (3, 90))] [] 118 V81
                have hF87 := pm_fs.tr hF34 hF84 (by decide) (by decide)
                have e88 : V81 90 33 = y1 := by rw [hF84.2 33 (by decide)]; exact e35
                have e89 : V81 90 1 = y7 := by rw [hF84.2 1 (by decide)]; exact e36
                have e90 : V81 90 32 = y16 := by rw [hF84.2 32 (by decide)]; exact e37
                have hp91 : pm_RLn V81 := (pm_RLn.fr hp38 (hF84.2 32 (by decide)) (hF84.2 33 (by decide)) (hF84.1 107 (by decide) (by decide)))
                obtain ⟨y92, e93⟩ : ∃ y, V81 90 2 = y := ⟨_, rfl⟩
                have b94 := hV83.get 90 2 (lo := 0) (hi := 500) (by decide) (by decide) rfl
                rw [e93] at b94
                replace hT := hT.trans (pf_let_eq e93)
                obtain ⟨y95, e96⟩ : ∃ y, V81 90 3 = y := ⟨_, rfl⟩
                have b97 := hV83.get 90 3 (lo := 0) (hi := 4) (by decide) (by decide) rfl
                rw [e96] at b97
                replace hT := hT.trans (pf_let_eq e96)
                obtain ⟨y98, e99⟩ : ∃ y, V81 90 4 = y := ⟨_, rfl⟩
                have b100 := hV83.get 90 4 (lo := 0) (hi := 500) (by decide) (by decide) rfl
                rw [e99] at b100
                replace hT := hT.trans (pf_let_eq e99)
                have hpr101 := r_leads_pr hV30 hg32 hE86
                have htk102 : pm_tk V81 := hpr101.2.2.2.1
                have hRX := hRX.fr (hF84.1 107 (by decide) (by decide)) (hF84.2 33 (by decide))
                refine pm_aload_n hC 1 (by decide) dX12_ruleLine_94 rfl ?_
                refine pm_ldcwS (tx := "if") (q := 16) hC (by decide) dX12_ruleLine_95 ?_
                change pm_J X 98 [(1, (0, 3)), (0, (3, 90))] [(4, 16), (3, 90)] 118 V81
                refine pm_callV (ci := 12) (as := [(4, 16)]) (st := []) hC 90 (fP_X12_isWord 16 ⟨by decide, by decide⟩) lm_X12_156 li_X12_isWord (by decide) (by decide) rfl rfl rfl (by decide) rfl rfl (Nat.le_of_ble_eq_true rfl) ⟨Nat.le_refl _, Or.inl rfl⟩ dX12_ruleLine_98 ⟨rfl, hV83⟩ (fun r103 V104 hp105 => ?_)
                obtain ⟨y106, rfl, b107, rfl, hE108⟩ := hp105
                replace hT := hT.trans (pf_call_eq hE108)
                change pm_J X 101 [(1, (0, 3)), (0, (3, 90))] [(0, y106)] 118 V81
                refine pm_if_ne (tgt := 106) hC ⟨by exact ow_68_0 b107, by exact ow_68_1 b107⟩ dX12_ruleLine_101 (by decide) (fun c109 => ?_) (fun c109 => ?_)
                · skip
                  replace hT := hT.trans (if_pos c109)
                  refine pm_iconst (v := 1) hC dX12_ruleLine_106 ?_
                  refine pm_istore_n (lv' := [(2, (0, 1)), (1, (0, 3)), (0, (3, 90))]) hC dX12_ruleLine_107 (by decide) rfl ?_
                  obtain ⟨B123, hB124, hT⟩ := pf_loop hT
                  have L126 : ∀ (N128 : Nat) (x110 : Int) (V112 : pm_M), (0 ≤ x110 ∧ x110 ≤ 1) → pm_oq pm_qP V112 → pm_fs [107, 109] [2, 3, 4, 5, 32, 33, 37, 39] V0 V112 → V112 90 1 = y7 → V112 90 32 = y16 → pm_az V112 → pm_tk V112 → (V0 90 2 ≤ V112 90 2) → (pm_RX V112 0 (V0 90 32)) → (V112 90 33 + 2 ≤ V112 90 4) → (x110 = 1 → V112 90 3 = 1) → F_X12_ruleLine  V0 = pf_val ((0 : Int), V0) B123 (x110, V112) → (Int.toNat (2 * (5 * (500 - V112 90 2) + V112 90 3) + x110)) = N128 → pm_J X 108 [(0, (3, 90)), (1, (0, 3)), (2, (0, x110))] [] 118 V112 := by
                    intro N128
                    induction N128 using Nat.strongRecOn with
                    | _ N128 ih129 =>
                    intro x110 V112 b111 hV113 hF114 e115 e116 hp117 hp118 hm119 hx120 hx121 hx122 hT hm127
                    have hb125 := congrFun hB124 (x110, V112)
                    obtain ⟨y130, e131⟩ : ∃ y, V112 90 2 = y := ⟨_, rfl⟩
                    have b132 := hV113.get 90 2 (lo := 0) (hi := 500) (by decide) (by decide) rfl
                    rw [e131] at b132
                    replace hb125 := hb125.trans (pf_let_eq e131)
                    obtain ⟨y133, e134⟩ : ∃ y, V112 90 3 = y := ⟨_, rfl⟩
                    have b135 := hV113.get 90 3 (lo := 0) (hi := 4) (by decide) (by decide) rfl
                    rw [e134] at b135
                    replace hb125 := hb125.trans (pf_let_eq e134)
                    obtain ⟨y136, e137⟩ : ∃ y, V112 90 4 = y := ⟨_, rfl⟩
                    have b138 := hV113.get 90 4 (lo := 0) (hi := 500) (by decide) (by decide) rfl
                    rw [e137] at b138
                    replace hb125 := hb125.trans (pf_let_eq e137)
                    obtain ⟨y139, e140⟩ : ∃ y, V112 90 33 = y := ⟨_, rfl⟩
                    have b141 := hV113.get 90 33 (lo := 0) (hi := 600) (by decide) (by decide) rfl
                    rw [e140] at b141
                    replace hb125 := hb125.trans (pf_let_eq e140)
                    have hRX := hx120
                    have hLn := hx121
                    have hMo := hx122
                    have htk := hp118
                    unfold pm_tk at htk
                    refine pm_iload_n hC 2 dX12_ruleLine_108 rfl ?_
                    refine pm_if_eq (tgt := 191) hC ⟨by exact ow_68_12 b111, by exact ow_68_13 b111⟩ dX12_ruleLine_109 (by decide) (fun c142 => ?_) (fun c142 => ?_)
                    · skip
                      replace hb125 := hb125.trans (if_pos c142)
                      refine pm_aload_n hC 0 (by decide) dX12_ruleLine_191 rfl ?_
                      refine pm_bipush (v := 7) hC dX12_ruleLine_192 (by decide) ?_
                      refine pm_iload_n hC 1 dX12_ruleLine_194 rfl ?_
                      have q146 : 0 ≤ V112 90 33 ∧ V112 90 33 ≤ 599 := by (have e : V112 90 33 = y139 := e140); rw [e]; exact ⟨by exact ow_68_14 b141, by exact ow_68_15 hx121 e137 b138 e140⟩
                      refine pm_callV (ci := 12) (as := [(0, 7), (0, 3)]) (st := []) hC 90 (fP_X12_lays 7 3 ⟨by decide, by decide⟩ ⟨by decide, by decide⟩) lm_X12_248 li_X12_lays (by decide) (by decide) rfl rfl rfl (by decide) rfl rfl (Nat.le_of_ble_eq_true rfl) ⟨Nat.le_refl _, Or.inl rfl⟩ dX12_ruleLine_195 ⟨rfl, hV113, q146⟩ (fun r143 V144 hp145 => ?_)
                      obtain ⟨rfl, hV147, hF148, hxp149, hE150⟩ := hp145
                      replace hb125 := hb125.trans (pf_call_eq hE150)
                      change pm_J X 198 [(0, (3, 90)), (1, (0, 3)), (2, (0, x110))] [] 118 V144
                      have hF151 := pm_fs.tr hF114 hF148 (by decide) (by decide)
                      have e152 : V144 90 1 = y7 := by rw [hF148.2 1 (by decide)]; exact e115
                      have e153 : V144 90 32 = y16 := by rw [hF148.2 32 (by decide)]; exact e116
                      have e154 : V144 90 2 = y130 := by rw [hF148.2 2 (by decide)]; exact e131
                      have e155 : V144 90 3 = y133 := by rw [hF148.2 3 (by decide)]; exact e134
                      have e156 : V144 90 4 = y136 := by rw [hF148.2 4 (by decide)]; exact e137
                      have hp157 : pm_az V144 := (pm_az.fr hp117 (hF148.2 1 (by decide)) (hF148.2 2 (by decide)))
                      have hp158 : pm_tk V144 := (pm_tk.fr hp118 (hF148.2 2 (by decide)) (hF148.2 3 (by decide)) (hF148.2 4 (by decide)))
                      obtain ⟨y159, e160⟩ : ∃ y, V144 90 33 = y := ⟨_, rfl⟩
                      have b161 := hV147.get 90 33 (lo := 0) (hi := 600) (by decide) (by decide) rfl
                      rw [e160] at b161
                      replace hb125 := hb125.trans (pf_let_eq e160)
                      have hRX : pm_RX V144 0 (V0 90 32 + 1) := hRX.last (by exact ow_68_16 q146) hE150 (by decide)
                      refine pm_aload_n hC 0 (by decide) dX12_ruleLine_198 rfl ?_
                      refine pm_dup hC rfl dX12_ruleLine_199 ?_
                      refine pm_getf (v := y16) hC 90 fl_X12_271 rfl rfl (by decide) rfl e153 dX12_ruleLine_200 ?_
                      refine pm_iconst (v := 1) hC dX12_ruleLine_203 ?_
                      refine pm_iadd hC dX12_ruleLine_204 ?_
                      refine pm_putf hC 90 fl_X12_271 rfl rfl rfl (by decide) rfl trivial dX12_ruleLine_205 ?_
                      refine pm_aload_n hC 0 (by decide) dX12_ruleLine_208 rfl ?_
                      have hV164 := (hV147.put 90 32 (x := (y16 + 1)) (lo := 0) (hi := 10) rfl ⟨by exact ow_68_17 b18, by (exact ow_68_18 b18 c26)⟩)
                      have hF165 := (hF151.upf 32 (y16 + 1) rfl)
                      obtain ⟨V162, hv163⟩ : ∃ V, V = (pm_up V144 90 32 (y16 + 1)) := ⟨_, rfl⟩
                      rw [← hv163] at hV164 hF165
                      rw [← hv163]
                      replace hb125 := hb125.trans (pf_let_eq hv163.symm)
                      have e166 : V162 90 1 = y7 := by rw [hv163]; exact e152
                      have e167 : V162 90 2 = y130 := by rw [hv163]; exact e154
                      have e168 : V162 90 3 = y133 := by rw [hv163]; exact e155
                      have e169 : V162 90 4 = y136 := by rw [hv163]; exact e156
                      have e170 : V162 90 33 = y159 := by rw [hv163]; exact e160
                      have e171 : V162 90 32 = (y16 + 1) := by rw [hv163]; rfl
                      have hp172 : pm_az V162 := by rw [hv163]; exact (pm_az.fr hp157 rfl rfl)
                      have hp173 : pm_tk V162 := by rw [hv163]; exact (pm_tk.fr hp158 rfl rfl rfl)
                      have hrl174 : pm_RLn V162 := by rw [hv163]; exact pm_RLn.mk hRX (by exact ow_68_19 e17)
                      refine pm_callV (ci := 12) (as := []) (st := []) hC 90 fP_X12_closes lm_X12_183 li_X12_closes (by decide) (by decide) rfl rfl rfl (by decide) rfl rfl (Nat.le_of_ble_eq_true rfl) ⟨Nat.le_refl _, Or.inl rfl⟩ dX12_ruleLine_209 ⟨rfl, hV164, hp172, hp173⟩ (fun r175 V176 hp177 => ?_)
                      obtain ⟨y178, rfl, b179, hV180, hF181, hg182, hg183, hE184⟩ := hp177
                      replace hb125 := hb125.trans (pf_call_eq hE184)
                      change pm_J X 212 [(0, (3, 90)), (1, (0, 3)), (2, (0, x110))] [(0, y178)] 118 V176
                      have hF185 := pm_fs.tr hF165 hF181 (by decide) (by decide)
                      have e186 : V176 90 1 = y7 := by rw [hF181.2 1 (by decide)]; exact e166
                      have e187 : V176 90 33 = y159 := by rw [hF181.2 33 (by decide)]; exact e170
                      have e188 : V176 90 32 = (y16 + 1) := by rw [hF181.2 32 (by decide)]; exact e171
                      have hp189 : pm_RLn V176 := (pm_RLn.fr hrl174 (hF181.2 32 (by decide)) (hF181.2 33 (by decide)) (hF181.1 107 (by decide) (by decide)))
                      obtain ⟨y190, e191⟩ : ∃ y, V176 90 2 = y := ⟨_, rfl⟩
                      have b192 := hV180.get 90 2 (lo := 0) (hi := 500) (by decide) (by decide) rfl
                      rw [e191] at b192
                      replace hb125 := hb125.trans (pf_let_eq e191)
                      obtain ⟨y193, e194⟩ : ∃ y, V176 90 3 = y := ⟨_, rfl⟩
                      have b195 := hV180.get 90 3 (lo := 0) (hi := 4) (by decide) (by decide) rfl
                      rw [e194] at b195
                      replace hb125 := hb125.trans (pf_let_eq e194)
                      obtain ⟨y196, e197⟩ : ∃ y, V176 90 4 = y := ⟨_, rfl⟩
                      have b198 := hV180.get 90 4 (lo := 0) (hi := 500) (by decide) (by decide) rfl
                      rw [e197] at b198
                      replace hb125 := hb125.trans (pf_let_eq e197)
                      replace hT := hT.trans (pf_val_inr hb125)
                      exact pm_iret hC hR (pm_narZ (by exact ow_68_20 b179)) ⟨y178, rfl, ⟨by exact ow_68_21 b179, by exact ow_68_22 b179, by exact ow_68_23 hm119 e131 e167 b179, by exact ow_68_24 hm119 e131 e167 b179⟩, hV180, hF185, hg182, hg183, (fun _ => hp189), (fun _ => by exact ow_68_25 hx121 e137 hxp149 e160 e169 b179 e187), hT⟩ dX12_ruleLine_212
                    · skip
                      replace hb125 := hb125.trans (if_neg c142)
                      refine pm_aload_n hC 0 (by decide) dX12_ruleLine_112 rfl ?_
                      refine pm_callV (ci := 12) (as := []) (st := []) hC 90 fP_X12_leads lm_X12_148 li_X12_leads (by decide) (by decide) rfl rfl rfl (by decide) rfl rfl (Nat.le_of_ble_eq_true rfl) ⟨Nat.le_refl _, Or.inl rfl⟩ dX12_ruleLine_113 ⟨rfl, hV113, hp117⟩ (fun r199 V200 hp201 => ?_)
                      obtain ⟨rfl, hV202, hF203, hg204, hE205⟩ := hp201
                      replace hb125 := hb125.trans (pf_call_eq hE205)
                      change pm_J X 116 [(0, (3, 90)), (1, (0, 3)), (2, (0, x110))] [] 118 V200
                      have hF206 := pm_fs.tr hF114 hF203 (by decide) (by decide)
                      have e207 : V200 90 1 = y7 := by rw [hF203.2 1 (by decide)]; exact e115
                      have e208 : V200 90 32 = y16 := by rw [hF203.2 32 (by decide)]; exact e116
                      have e209 : V200 90 33 = y139 := by rw [hF203.2 33 (by decide)]; exact e140
                      obtain ⟨y210, e211⟩ : ∃ y, V200 90 2 = y := ⟨_, rfl⟩
                      have b212 := hV202.get 90 2 (lo := 0) (hi := 500) (by decide) (by decide) rfl
                      rw [e211] at b212
                      replace hb125 := hb125.trans (pf_let_eq e211)
                      obtain ⟨y213, e214⟩ : ∃ y, V200 90 3 = y := ⟨_, rfl⟩
                      have b215 := hV202.get 90 3 (lo := 0) (hi := 4) (by decide) (by decide) rfl
                      rw [e214] at b215
                      replace hb125 := hb125.trans (pf_let_eq e214)
                      obtain ⟨y216, e217⟩ : ∃ y, V200 90 4 = y := ⟨_, rfl⟩
                      have b218 := hV202.get 90 4 (lo := 0) (hi := 500) (by decide) (by decide) rfl
                      rw [e217] at b218
                      replace hb125 := hb125.trans (pf_let_eq e217)
                      have hpr219 := r_leads_pr hV113 hp117 hE205
                      have htk220 : pm_tk V200 := hpr219.2.2.2.1
                      have hRX := hRX.fr (hF203.1 107 (by decide) (by decide)) (hF203.2 33 (by decide))
                      refine pm_aload_n hC 0 (by decide) dX12_ruleLine_116 rfl ?_
                      have hrw221 : pm_rw V200 := ⟨hRX.1, by rw [hRX.2.1]; decide⟩
                      refine pm_callV (ci := 12) (as := []) (st := []) hC 90 fP_X12_sumHere lm_X12_284 li_X12_sumHere (by decide) (by decide) rfl rfl rfl (by decide) rfl rfl (Nat.le_of_ble_eq_true rfl) ⟨Nat.le_refl _, Or.inl rfl⟩ dX12_ruleLine_117 ⟨rfl, hV202, (show V200 90 33 ≤ V200 90 4 by exact ow_68_26 hx121 e134 b135 e140 htk e209 hpr219), hg204, htk220, hrw221⟩ (fun r222 V223 hp224 => ?_)
                      obtain ⟨y225, rfl, b226, hV227, hF228, hg229, hg230, hxp231, hxp232, hE233⟩ := hp224
                      replace hb125 := hb125.trans (pf_call_eq hE233)
                      change pm_J X 120 [(0, (3, 90)), (1, (0, 3)), (2, (0, x110))] [(0, y225)] 118 V223
                      have hF234 := pm_fs.tr hF206 hF228 (by decide) (by decide)
                      have e235 : V223 90 1 = y7 := by rw [hF228.2 1 (by decide)]; exact e207
                      have e236 : V223 90 32 = y16 := by rw [hF228.2 32 (by decide)]; exact e208
                      obtain ⟨y237, e238⟩ : ∃ y, V223 90 2 = y := ⟨_, rfl⟩
                      have b239 := hV227.get 90 2 (lo := 0) (hi := 500) (by decide) (by decide) rfl
                      rw [e238] at b239
                      replace hb125 := hb125.trans (pf_let_eq e238)
                      obtain ⟨y240, e241⟩ : ∃ y, V223 90 3 = y := ⟨_, rfl⟩
                      have b242 := hV227.get 90 3 (lo := 0) (hi := 4) (by decide) (by decide) rfl
                      rw [e241] at b242
                      replace hb125 := hb125.trans (pf_let_eq e241)
                      obtain ⟨y243, e244⟩ : ∃ y, V223 90 4 = y := ⟨_, rfl⟩
                      have b245 := hV227.get 90 4 (lo := 0) (hi := 500) (by decide) (by decide) rfl
                      rw [e244] at b245
                      replace hb125 := hb125.trans (pf_let_eq e244)
                      obtain ⟨y246, e247⟩ : ∃ y, V223 90 33 = y := ⟨_, rfl⟩
                      have b248 := hV227.get 90 33 (lo := 0) (hi := 600) (by decide) (by decide) rfl
                      rw [e247] at b248
                      replace hb125 := hb125.trans (pf_let_eq e247)
                      have htk := hg230
                      unfold pm_tk at htk
                      refine pm_if_ne (tgt := 125) hC ⟨by exact ow_68_27 b226, by exact ow_68_28 b226⟩ dX12_ruleLine_120 (by decide) (fun c249 => ?_) (fun c249 => ?_)
                      · skip
                        replace hb125 := hb125.trans (if_pos c249)
                        have hRX := hRX.sum (h1 := 1) (hxp231 (by exact ow_68_29 b226 c249)) (by decide)
                        have hSl := hxp232 (by exact ow_68_29 b226 c249)
                        refine pm_aload_n hC 0 (by decide) dX12_ruleLine_125 rfl ?_
                        refine pm_bipush (v := 60) hC dX12_ruleLine_126 (by decide) ?_
                        refine pm_callV (ci := 12) (as := [(0, 60)]) (st := []) hC 90 (fP_X12_isSign 60 ⟨by decide, by decide⟩) lm_X12_145 li_X12_isSign (by decide) (by decide) rfl rfl rfl (by decide) rfl rfl (Nat.le_of_ble_eq_true rfl) ⟨Nat.le_refl _, Or.inl rfl⟩ dX12_ruleLine_128 ⟨rfl, hV227⟩ (fun r250 V251 hp252 => ?_)
                        obtain ⟨y253, rfl, b254, rfl, hE255⟩ := hp252
                        replace hb125 := hb125.trans (pf_call_eq hE255)
                        change pm_J X 131 [(0, (3, 90)), (1, (0, 3)), (2, (0, x110))] [(0, y253)] 118 V223
                        refine pm_if_eq (tgt := 138) hC ⟨by exact ow_68_30 b254, by exact ow_68_31 b254⟩ dX12_ruleLine_131 (by decide) (fun c256 => ?_) (fun c256 => ?_)
                        · skip
                          replace hb125 := hb125.trans (if_pos c256)
                          refine pm_aload_n hC 0 (by decide) dX12_ruleLine_138 rfl ?_
                          refine pm_bipush (v := 61) hC dX12_ruleLine_139 (by decide) ?_
                          refine pm_callV (ci := 12) (as := [(0, 61)]) (st := []) hC 90 (fP_X12_isSign 61 ⟨by decide, by decide⟩) lm_X12_145 li_X12_isSign (by decide) (by decide) rfl rfl rfl (by decide) rfl rfl (Nat.le_of_ble_eq_true rfl) ⟨Nat.le_refl _, Or.inl rfl⟩ dX12_ruleLine_141 ⟨rfl, hV227⟩ (fun r257 V258 hp259 => ?_)
                          obtain ⟨y260, rfl, b261, rfl, hE262⟩ := hp259
                          replace hb125 := hb125.trans (pf_call_eq hE262)
                          change pm_J X 144 [(0, (3, 90)), (1, (0, 3)), (2, (0, x110))] [(0, y260)] 118 V223
                          refine pm_if_eq (tgt := 152) hC ⟨by exact ow_68_30 b261, by exact ow_68_31 b261⟩ dX12_ruleLine_144 (by decide) (fun c263 => ?_) (fun c263 => ?_)
                          · skip
                            replace hb125 := hb125.trans (if_pos c263)
                            refine pm_iconst (v := (-1)) hC dX12_ruleLine_152 ?_
                            refine pm_istore_n (lv' := [(3, (0, (-1))), (0, (3, 90)), (1, (0, 3)), (2, (0, x110))]) hC dX12_ruleLine_153 (by decide) rfl ?_
                            refine pm_iload_n hC 0 dX12_ruleLine_154 rfl ?_
                            refine pm_iconst (v := (-1)) hC dX12_ruleLine_155 ?_
                            refine pm_icmp_ne (tgt := 161) hC ⟨by decide, by decide⟩ ⟨by decide, by decide⟩ dX12_ruleLine_156 (by decide) (fun c264 => ?_) (fun c264 => ?_)
                            · skip
                              exfalso; exact ow_68_9 c264
                            · skip
                              refine pm_iconst (v := 0) hC dX12_ruleLine_159 ?_
                              replace hT := hT.trans (pf_val_inr hb125)
                              exact pm_iret hC hR (pm_narZ (by exact ow_68_2)) ⟨0, rfl, ⟨by exact ow_68_3, by exact ow_68_4, by exact ow_68_10, by exact ow_68_32 hm119 hpr219 b226⟩, hV227, hF234, hg229, hg230, (fun q => absurd q (by decide)), (fun q => absurd q (by decide)), hT⟩ dX12_ruleLine_160
                          · skip
                            replace hb125 := hb125.trans (if_neg c263)
                            refine pm_bipush (v := 6) hC dX12_ruleLine_147 (by decide) ?_
                            refine pm_goto (tgt := 153) hC dX12_ruleLine_149 (by decide) ?_
                            refine pm_istore_n (lv' := [(3, (0, 6)), (0, (3, 90)), (1, (0, 3)), (2, (0, x110))]) hC dX12_ruleLine_153 (by decide) rfl ?_
                            refine pm_iload_n hC 0 dX12_ruleLine_154 rfl ?_
                            refine pm_iconst (v := (-1)) hC dX12_ruleLine_155 ?_
                            refine pm_icmp_ne (tgt := 161) hC ⟨by decide, by decide⟩ ⟨by decide, by decide⟩ dX12_ruleLine_156 (by decide) (fun c265 => ?_) (fun c265 => ?_)
                            · skip
                              refine pm_aload_n hC 1 (by decide) dX12_ruleLine_161 rfl ?_
                              refine pm_callV (ci := 12) (as := []) (st := []) hC 90 fP_X12_leads lm_X12_148 li_X12_leads (by decide) (by decide) rfl rfl rfl (by decide) rfl rfl (Nat.le_of_ble_eq_true rfl) ⟨Nat.le_refl _, Or.inl rfl⟩ dX12_ruleLine_162 ⟨rfl, hV227, hg229⟩ (fun r266 V267 hp268 => ?_)
                              obtain ⟨rfl, hV269, hF270, hg271, hE272⟩ := hp268
                              replace hb125 := hb125.trans (pf_call_eq hE272)
                              change pm_J X 165 [(3, (0, 6)), (0, (3, 90)), (1, (0, 3)), (2, (0, x110))] [] 118 V267
                              have hF273 := pm_fs.tr hF234 hF270 (by decide) (by decide)
                              have e274 : V267 90 1 = y7 := by rw [hF270.2 1 (by decide)]; exact e235
                              have e275 : V267 90 32 = y16 := by rw [hF270.2 32 (by decide)]; exact e236
                              have e276 : V267 90 33 = y246 := by rw [hF270.2 33 (by decide)]; exact e247
                              obtain ⟨y277, e278⟩ : ∃ y, V267 90 2 = y := ⟨_, rfl⟩
                              have b279 := hV269.get 90 2 (lo := 0) (hi := 500) (by decide) (by decide) rfl
                              rw [e278] at b279
                              replace hb125 := hb125.trans (pf_let_eq e278)
                              obtain ⟨y280, e281⟩ : ∃ y, V267 90 3 = y := ⟨_, rfl⟩
                              have b282 := hV269.get 90 3 (lo := 0) (hi := 4) (by decide) (by decide) rfl
                              rw [e281] at b282
                              replace hb125 := hb125.trans (pf_let_eq e281)
                              obtain ⟨y283, e284⟩ : ∃ y, V267 90 4 = y := ⟨_, rfl⟩
                              have b285 := hV269.get 90 4 (lo := 0) (hi := 500) (by decide) (by decide) rfl
                              rw [e284] at b285
                              replace hb125 := hb125.trans (pf_let_eq e284)
                              have hpr286 := r_leads_pr hV227 hg229 hE272
                              have htk287 : pm_tk V267 := hpr286.2.2.2.1
                              have hRX := hRX.fr (hF270.1 107 (by decide) (by decide)) (hF270.2 33 (by decide))
                              refine pm_aload_n hC 1 (by decide) dX12_ruleLine_165 rfl ?_
                              have hrw288 : pm_rw V267 := ⟨hRX.1, by rw [hRX.2.1]; decide⟩
                              refine pm_callV (ci := 12) (as := []) (st := []) hC 90 fP_X12_sumHere lm_X12_284 li_X12_sumHere (by decide) (by decide) rfl rfl rfl (by decide) rfl rfl (Nat.le_of_ble_eq_true rfl) ⟨Nat.le_refl _, Or.inl rfl⟩ dX12_ruleLine_166 ⟨rfl, hV269, (show V267 90 33 ≤ V267 90 4 by (exact ow_68_33 hx121 e134 b135 e140 ‹V112 90 3 ≤ 4 * (V112 90 2 - V112 90 4)› e209 hpr219 e241 b242 e247 htk hSl e276 hpr286)), hg271, htk287, hrw288⟩ (fun r289 V290 hp291 => ?_)
                              obtain ⟨y292, rfl, b293, hV294, hF295, hg296, hg297, hxp298, hxp299, hE300⟩ := hp291
                              replace hb125 := hb125.trans (pf_call_eq hE300)
                              change pm_J X 169 [(3, (0, 6)), (0, (3, 90)), (1, (0, 3)), (2, (0, x110))] [(0, y292)] 118 V290
                              have hF301 := pm_fs.tr hF273 hF295 (by decide) (by decide)
                              have e302 : V290 90 1 = y7 := by rw [hF295.2 1 (by decide)]; exact e274
                              have e303 : V290 90 32 = y16 := by rw [hF295.2 32 (by decide)]; exact e275
                              obtain ⟨y304, e305⟩ : ∃ y, V290 90 2 = y := ⟨_, rfl⟩
                              have b306 := hV294.get 90 2 (lo := 0) (hi := 500) (by decide) (by decide) rfl
                              rw [e305] at b306
                              replace hb125 := hb125.trans (pf_let_eq e305)
                              obtain ⟨y307, e308⟩ : ∃ y, V290 90 3 = y := ⟨_, rfl⟩
                              have b309 := hV294.get 90 3 (lo := 0) (hi := 4) (by decide) (by decide) rfl
                              rw [e308] at b309
                              replace hb125 := hb125.trans (pf_let_eq e308)
                              obtain ⟨y310, e311⟩ : ∃ y, V290 90 4 = y := ⟨_, rfl⟩
                              have b312 := hV294.get 90 4 (lo := 0) (hi := 500) (by decide) (by decide) rfl
                              rw [e311] at b312
                              replace hb125 := hb125.trans (pf_let_eq e311)
                              obtain ⟨y313, e314⟩ : ∃ y, V290 90 33 = y := ⟨_, rfl⟩
                              have b315 := hV294.get 90 33 (lo := 0) (hi := 600) (by decide) (by decide) rfl
                              rw [e314] at b315
                              replace hb125 := hb125.trans (pf_let_eq e314)
                              have htk := hg297
                              unfold pm_tk at htk
                              refine pm_if_ne (tgt := 174) hC ⟨by exact ow_68_27 b293, by exact ow_68_28 b293⟩ dX12_ruleLine_169 (by decide) (fun c316 => ?_) (fun c316 => ?_)
                              · skip
                                replace hb125 := hb125.trans (if_pos c316)
                                have hRX := hRX.sum (h1 := 2) (hxp298 (by exact ow_68_29 b293 c316)) (by decide)
                                have hSl := hxp299 (by exact ow_68_29 b293 c316)
                                refine pm_aload_n hC 1 (by decide) dX12_ruleLine_174 rfl ?_
                                refine pm_iload_n hC 0 dX12_ruleLine_175 rfl ?_
                                refine pm_iconst (v := 0) hC dX12_ruleLine_176 ?_
                                have q320 : 0 ≤ V290 90 33 ∧ V290 90 33 ≤ 599 := by (have e : V290 90 33 = y313 := e314); rw [e]; exact ⟨by exact ow_68_14 b315, by (clear hmp0 e2 b3 e5 b6 e8 b9 e11 b12 e14 b15 e17 b18 hsz b23 c25 c26 e35 e36 e37 e40 b41 e43 b44 e46 b47 hpr48 b54 c56 b61 c63 b68 c70 b75 c77 c79 e88 e89 e90 e93 b94 e96 b97 e99 b100 hpr101 b107 c109 b111 e115 e116 hm119 hx122 hm127 b132 b138 b141 hLn hMo c142 e207 e208 e211 b212 e214 b215 b218 b226 hxp231 hxp232 e235 e236 b239 b245 b248 c249 b254 c256 b261 c263 c265 e274 e275 e278 b279 e281 b282 b285 b293 hxp298 hxp299 e302 e303 e305 b306 e308 b309 htk c316 e; exact ow_68_34 hx121 e134 b135 e140 ‹V112 90 3 ≤ 4 * (V112 90 2 - V112 90 4)› e209 hpr219 e241 b242 e247 htk ‹V223 90 33 + V200 90 4 ≤ V223 90 4 + V200 90 33› e276 hpr286 e311 b312 e314 hSl)⟩
                                refine pm_callV (ci := 12) (as := [(0, 6), (0, 0)]) (st := []) hC 90 (fP_X12_lays 6 0 ⟨by decide, by decide⟩ ⟨by decide, by decide⟩) lm_X12_248 li_X12_lays (by decide) (by decide) rfl rfl rfl (by decide) rfl rfl (Nat.le_of_ble_eq_true rfl) ⟨Nat.le_refl _, Or.inl rfl⟩ dX12_ruleLine_177 ⟨rfl, hV294, q320⟩ (fun r317 V318 hp319 => ?_)
                                obtain ⟨rfl, hV321, hF322, hxp323, hE324⟩ := hp319
                                replace hb125 := hb125.trans (pf_call_eq hE324)
                                change pm_J X 180 [(3, (0, 6)), (0, (3, 90)), (1, (0, 3)), (2, (0, x110))] [] 118 V318
                                have hF325 := pm_fs.tr hF301 hF322 (by decide) (by decide)
                                have e326 : V318 90 1 = y7 := by rw [hF322.2 1 (by decide)]; exact e302
                                have e327 : V318 90 32 = y16 := by rw [hF322.2 32 (by decide)]; exact e303
                                have e328 : V318 90 2 = y304 := by rw [hF322.2 2 (by decide)]; exact e305
                                have e329 : V318 90 3 = y307 := by rw [hF322.2 3 (by decide)]; exact e308
                                have e330 : V318 90 4 = y310 := by rw [hF322.2 4 (by decide)]; exact e311
                                have hp331 : pm_az V318 := (pm_az.fr hg296 (hF322.2 1 (by decide)) (hF322.2 2 (by decide)))
                                have hp332 : pm_tk V318 := (pm_tk.fr hg297 (hF322.2 2 (by decide)) (hF322.2 3 (by decide)) (hF322.2 4 (by decide)))
                                obtain ⟨y333, e334⟩ : ∃ y, V318 90 33 = y := ⟨_, rfl⟩
                                have b335 := hV321.get 90 33 (lo := 0) (hi := 600) (by decide) (by decide) rfl
                                rw [e334] at b335
                                replace hb125 := hb125.trans (pf_let_eq e334)
                                have hRX : pm_RX V318 0 (V0 90 32) := hRX.lay (by exact ow_68_16 q320) hE324 (by decide) (Or.inr rfl)
                                refine pm_aload_n hC 1 (by decide) dX12_ruleLine_180 rfl ?_
                                refine pm_ldcwS (tx := "and") (q := 17) hC (by decide) dX12_ruleLine_181 ?_
                                change pm_J X 184 [(3, (0, 6)), (0, (3, 90)), (1, (0, 3)), (2, (0, x110))] [(4, 17), (3, 90)] 118 V318
                                refine pm_callV (ci := 12) (as := [(4, 17)]) (st := []) hC 90 (fP_X12_isWord 17 ⟨by decide, by decide⟩) lm_X12_156 li_X12_isWord (by decide) (by decide) rfl rfl rfl (by decide) rfl rfl (Nat.le_of_ble_eq_true rfl) ⟨Nat.le_refl _, Or.inl rfl⟩ dX12_ruleLine_184 ⟨rfl, hV321⟩ (fun r336 V337 hp338 => ?_)
                                obtain ⟨y339, rfl, b340, rfl, hE341⟩ := hp338
                                replace hb125 := hb125.trans (pf_call_eq hE341)
                                change pm_J X 187 [(3, (0, 6)), (0, (3, 90)), (1, (0, 3)), (2, (0, x110))] [(0, y339)] 118 V318
                                refine pm_istore_n (lv' := [(2, (0, y339)), (3, (0, 6)), (0, (3, 90)), (1, (0, 3))]) hC dX12_ruleLine_187 (by decide) rfl ?_
                                refine pm_goto (tgt := 108) hC dX12_ruleLine_188 (by decide) ?_
                                refine pm_lvsub [2, 3, 0] (lv' := [(0, (3, 90)), (1, (0, 3)), (2, (0, y339))]) rfl ?_
                                exact ih129 _ (by (exact ow_68_35 b111 hm127 e131 b132 hMo c142 e214 b215 hpr219 b226 e281 b282 hpr286 b293 e305 e308 c316 e328 e329 b340)) y339 V318 ⟨by exact ow_68_36 b340, by exact ow_68_37 b340⟩ hV321 hF325 e326 e327 hp331 hp332 (by (have e : V318 90 2 = y304 := e328); rw [e]; exact ow_68_38 hm119 hpr219 b226 hpr286 b293 e305) hRX (by rw [(show V318 90 33 = y333 from e334), (show V318 90 4 = y310 from e330)]; (clear hmp0 e2 b3 e5 b6 e8 b9 e11 b12 e14 b15 e17 b18 hsz b23 c25 c26 e35 e36 e37 e40 b41 e43 b44 e46 b47 hpr48 b54 c56 b61 c63 b68 c70 b75 c77 c79 e88 e89 e90 e93 b94 e96 b97 e99 b100 hpr101 b107 c109 b111 e115 e116 hm119 hx122 hm127 b132 b138 b141 hLn hMo c142 e207 e208 e211 b212 e214 b215 b218 b226 hxp231 hxp232 e235 e236 b239 b242 b245 b248 c249 b254 c256 e274 e275 e278 b279 e281 b282 b285 e302 e303 e305 b306 e308 b309 b312 b315 htk q320 e326 e327 e328 e329 b335; exact ow_68_39 hx121 e134 b135 e140 ‹V112 90 3 ≤ 4 * (V112 90 2 - V112 90 4)› e209 hpr219 e247 htk ‹V223 90 33 + V200 90 4 ≤ V223 90 4 + V200 90 33› b261 c263 e276 hpr286 e311 hSl hxp323 e334)) (by rw [(show V318 90 3 = y307 from e329)]; exact ow_68_40 e329 b340) (hT.trans (pf_val_inl hb125)) rfl
                              · skip
                                replace hb125 := hb125.trans (if_neg (fun q => q c316))
                                refine pm_iconst (v := 0) hC dX12_ruleLine_172 ?_
                                replace hT := hT.trans (pf_val_inr hb125)
                                exact pm_iret hC hR (pm_narZ (by exact ow_68_2)) ⟨0, rfl, ⟨by exact ow_68_3, by exact ow_68_4, by exact ow_68_10, by exact ow_68_41 hm119 hpr219 b226 hpr286 b293⟩, hV294, hF301, hg296, hg297, (fun q => absurd q (by decide)), (fun q => absurd q (by decide)), hT⟩ dX12_ruleLine_173
                            · skip
                              exfalso; exact ow_68_42 c265
                        · skip
                          replace hb125 := hb125.trans (if_neg c256)
                          refine pm_iconst (v := 5) hC dX12_ruleLine_134 ?_
                          refine pm_goto (tgt := 153) hC dX12_ruleLine_135 (by decide) ?_
                          refine pm_istore_n (lv' := [(3, (0, 5)), (0, (3, 90)), (1, (0, 3)), (2, (0, x110))]) hC dX12_ruleLine_153 (by decide) rfl ?_
                          refine pm_iload_n hC 0 dX12_ruleLine_154 rfl ?_
                          refine pm_iconst (v := (-1)) hC dX12_ruleLine_155 ?_
                          refine pm_icmp_ne (tgt := 161) hC ⟨by decide, by decide⟩ ⟨by decide, by decide⟩ dX12_ruleLine_156 (by decide) (fun c342 => ?_) (fun c342 => ?_)
                          · skip
                            refine pm_aload_n hC 1 (by decide) dX12_ruleLine_161 rfl ?_
                            refine pm_callV (ci := 12) (as := []) (st := []) hC 90 fP_X12_leads lm_X12_148 li_X12_leads (by decide) (by decide) rfl rfl rfl (by decide) rfl rfl (Nat.le_of_ble_eq_true rfl) ⟨Nat.le_refl _, Or.inl rfl⟩ dX12_ruleLine_162 ⟨rfl, hV227, hg229⟩ (fun r343 V344 hp345 => ?_)
                            obtain ⟨rfl, hV346, hF347, hg348, hE349⟩ := hp345
                            replace hb125 := hb125.trans (pf_call_eq hE349)
                            change pm_J X 165 [(3, (0, 5)), (0, (3, 90)), (1, (0, 3)), (2, (0, x110))] [] 118 V344
                            have hF350 := pm_fs.tr hF234 hF347 (by decide) (by decide)
                            have e351 : V344 90 1 = y7 := by rw [hF347.2 1 (by decide)]; exact e235
                            have e352 : V344 90 32 = y16 := by rw [hF347.2 32 (by decide)]; exact e236
                            have e353 : V344 90 33 = y246 := by rw [hF347.2 33 (by decide)]; exact e247
                            obtain ⟨y354, e355⟩ : ∃ y, V344 90 2 = y := ⟨_, rfl⟩
                            have b356 := hV346.get 90 2 (lo := 0) (hi := 500) (by decide) (by decide) rfl
                            rw [e355] at b356
                            replace hb125 := hb125.trans (pf_let_eq e355)
                            obtain ⟨y357, e358⟩ : ∃ y, V344 90 3 = y := ⟨_, rfl⟩
                            have b359 := hV346.get 90 3 (lo := 0) (hi := 4) (by decide) (by decide) rfl
                            rw [e358] at b359
                            replace hb125 := hb125.trans (pf_let_eq e358)
                            obtain ⟨y360, e361⟩ : ∃ y, V344 90 4 = y := ⟨_, rfl⟩
                            have b362 := hV346.get 90 4 (lo := 0) (hi := 500) (by decide) (by decide) rfl
                            rw [e361] at b362
                            replace hb125 := hb125.trans (pf_let_eq e361)
                            have hpr363 := r_leads_pr hV227 hg229 hE349
                            have htk364 : pm_tk V344 := hpr363.2.2.2.1
                            have hRX := hRX.fr (hF347.1 107 (by decide) (by decide)) (hF347.2 33 (by decide))
                            refine pm_aload_n hC 1 (by decide) dX12_ruleLine_165 rfl ?_
                            have hrw365 : pm_rw V344 := ⟨hRX.1, by rw [hRX.2.1]; decide⟩
                            refine pm_callV (ci := 12) (as := []) (st := []) hC 90 fP_X12_sumHere lm_X12_284 li_X12_sumHere (by decide) (by decide) rfl rfl rfl (by decide) rfl rfl (Nat.le_of_ble_eq_true rfl) ⟨Nat.le_refl _, Or.inl rfl⟩ dX12_ruleLine_166 ⟨rfl, hV346, (show V344 90 33 ≤ V344 90 4 by (exact ow_68_33 hx121 e134 b135 e140 ‹V112 90 3 ≤ 4 * (V112 90 2 - V112 90 4)› e209 hpr219 e241 b242 e247 htk hSl e353 hpr363)), hg348, htk364, hrw365⟩ (fun r366 V367 hp368 => ?_)
                            obtain ⟨y369, rfl, b370, hV371, hF372, hg373, hg374, hxp375, hxp376, hE377⟩ := hp368
                            replace hb125 := hb125.trans (pf_call_eq hE377)
                            change pm_J X 169 [(3, (0, 5)), (0, (3, 90)), (1, (0, 3)), (2, (0, x110))] [(0, y369)] 118 V367
                            have hF378 := pm_fs.tr hF350 hF372 (by decide) (by decide)
                            have e379 : V367 90 1 = y7 := by rw [hF372.2 1 (by decide)]; exact e351
                            have e380 : V367 90 32 = y16 := by rw [hF372.2 32 (by decide)]; exact e352
                            obtain ⟨y381, e382⟩ : ∃ y, V367 90 2 = y := ⟨_, rfl⟩
                            have b383 := hV371.get 90 2 (lo := 0) (hi := 500) (by decide) (by decide) rfl
                            rw [e382] at b383
                            replace hb125 := hb125.trans (pf_let_eq e382)
                            obtain ⟨y384, e385⟩ : ∃ y, V367 90 3 = y := ⟨_, rfl⟩
                            have b386 := hV371.get 90 3 (lo := 0) (hi := 4) (by decide) (by decide) rfl
                            rw [e385] at b386
                            replace hb125 := hb125.trans (pf_let_eq e385)
                            obtain ⟨y387, e388⟩ : ∃ y, V367 90 4 = y := ⟨_, rfl⟩
                            have b389 := hV371.get 90 4 (lo := 0) (hi := 500) (by decide) (by decide) rfl
                            rw [e388] at b389
                            replace hb125 := hb125.trans (pf_let_eq e388)
                            obtain ⟨y390, e391⟩ : ∃ y, V367 90 33 = y := ⟨_, rfl⟩
                            have b392 := hV371.get 90 33 (lo := 0) (hi := 600) (by decide) (by decide) rfl
                            rw [e391] at b392
                            replace hb125 := hb125.trans (pf_let_eq e391)
                            have htk := hg374
                            unfold pm_tk at htk
                            refine pm_if_ne (tgt := 174) hC ⟨by exact ow_68_27 b370, by exact ow_68_28 b370⟩ dX12_ruleLine_169 (by decide) (fun c393 => ?_) (fun c393 => ?_)
                            · skip
                              replace hb125 := hb125.trans (if_pos c393)
                              have hRX := hRX.sum (h1 := 2) (hxp375 (by exact ow_68_29 b370 c393)) (by decide)
                              have hSl := hxp376 (by exact ow_68_29 b370 c393)
                              refine pm_aload_n hC 1 (by decide) dX12_ruleLine_174 rfl ?_
                              refine pm_iload_n hC 0 dX12_ruleLine_175 rfl ?_
                              refine pm_iconst (v := 0) hC dX12_ruleLine_176 ?_
                              have q397 : 0 ≤ V367 90 33 ∧ V367 90 33 ≤ 599 := by (have e : V367 90 33 = y390 := e391); rw [e]; exact ⟨by exact ow_68_14 b392, by (clear hmp0 e2 b3 e5 b6 e8 b9 e11 b12 e14 b15 e17 b18 hsz b23 c25 c26 e35 e36 e37 e40 b41 e43 b44 e46 b47 hpr48 b54 c56 b61 c63 b68 c70 b75 c77 c79 e88 e89 e90 e93 b94 e96 b97 e99 b100 hpr101 b107 c109 b111 e115 e116 hm119 hx122 hm127 b132 b138 b141 hLn hMo c142 e207 e208 e211 b212 e214 b215 b218 b226 hxp231 hxp232 e235 e236 b239 b245 b248 c249 b254 c256 c342 e351 e352 e355 b356 e358 b359 b362 b370 hxp375 hxp376 e379 e380 e382 b383 e385 b386 htk c393 e; exact ow_68_34 hx121 e134 b135 e140 ‹V112 90 3 ≤ 4 * (V112 90 2 - V112 90 4)› e209 hpr219 e241 b242 e247 htk ‹V223 90 33 + V200 90 4 ≤ V223 90 4 + V200 90 33› e353 hpr363 e388 b389 e391 hSl)⟩
                              refine pm_callV (ci := 12) (as := [(0, 5), (0, 0)]) (st := []) hC 90 (fP_X12_lays 5 0 ⟨by decide, by decide⟩ ⟨by decide, by decide⟩) lm_X12_248 li_X12_lays (by decide) (by decide) rfl rfl rfl (by decide) rfl rfl (Nat.le_of_ble_eq_true rfl) ⟨Nat.le_refl _, Or.inl rfl⟩ dX12_ruleLine_177 ⟨rfl, hV371, q397⟩ (fun r394 V395 hp396 => ?_)
                              obtain ⟨rfl, hV398, hF399, hxp400, hE401⟩ := hp396
                              replace hb125 := hb125.trans (pf_call_eq hE401)
                              change pm_J X 180 [(3, (0, 5)), (0, (3, 90)), (1, (0, 3)), (2, (0, x110))] [] 118 V395
                              have hF402 := pm_fs.tr hF378 hF399 (by decide) (by decide)
                              have e403 : V395 90 1 = y7 := by rw [hF399.2 1 (by decide)]; exact e379
                              have e404 : V395 90 32 = y16 := by rw [hF399.2 32 (by decide)]; exact e380
                              have e405 : V395 90 2 = y381 := by rw [hF399.2 2 (by decide)]; exact e382
                              have e406 : V395 90 3 = y384 := by rw [hF399.2 3 (by decide)]; exact e385
                              have e407 : V395 90 4 = y387 := by rw [hF399.2 4 (by decide)]; exact e388
                              have hp408 : pm_az V395 := (pm_az.fr hg373 (hF399.2 1 (by decide)) (hF399.2 2 (by decide)))
                              have hp409 : pm_tk V395 := (pm_tk.fr hg374 (hF399.2 2 (by decide)) (hF399.2 3 (by decide)) (hF399.2 4 (by decide)))
                              obtain ⟨y410, e411⟩ : ∃ y, V395 90 33 = y := ⟨_, rfl⟩
                              have b412 := hV398.get 90 33 (lo := 0) (hi := 600) (by decide) (by decide) rfl
                              rw [e411] at b412
                              replace hb125 := hb125.trans (pf_let_eq e411)
                              have hRX : pm_RX V395 0 (V0 90 32) := hRX.lay (by exact ow_68_16 q397) hE401 (by decide) (Or.inl rfl)
                              refine pm_aload_n hC 1 (by decide) dX12_ruleLine_180 rfl ?_
                              refine pm_ldcwS (tx := "and") (q := 17) hC (by decide) dX12_ruleLine_181 ?_
                              change pm_J X 184 [(3, (0, 5)), (0, (3, 90)), (1, (0, 3)), (2, (0, x110))] [(4, 17), (3, 90)] 118 V395
                              refine pm_callV (ci := 12) (as := [(4, 17)]) (st := []) hC 90 (fP_X12_isWord 17 ⟨by decide, by decide⟩) lm_X12_156 li_X12_isWord (by decide) (by decide) rfl rfl rfl (by decide) rfl rfl (Nat.le_of_ble_eq_true rfl) ⟨Nat.le_refl _, Or.inl rfl⟩ dX12_ruleLine_184 ⟨rfl, hV398⟩ (fun r413 V414 hp415 => ?_)
                              obtain ⟨y416, rfl, b417, rfl, hE418⟩ := hp415
                              replace hb125 := hb125.trans (pf_call_eq hE418)
                              change pm_J X 187 [(3, (0, 5)), (0, (3, 90)), (1, (0, 3)), (2, (0, x110))] [(0, y416)] 118 V395
                              refine pm_istore_n (lv' := [(2, (0, y416)), (3, (0, 5)), (0, (3, 90)), (1, (0, 3))]) hC dX12_ruleLine_187 (by decide) rfl ?_
                              refine pm_goto (tgt := 108) hC dX12_ruleLine_188 (by decide) ?_
                              refine pm_lvsub [2, 3, 0] (lv' := [(0, (3, 90)), (1, (0, 3)), (2, (0, y416))]) rfl ?_
                              exact ih129 _ (by (exact ow_68_35 b111 hm127 e131 b132 hMo c142 e214 b215 hpr219 b226 e358 b359 hpr363 b370 e382 e385 c393 e405 e406 b417)) y416 V395 ⟨by exact ow_68_36 b417, by exact ow_68_37 b417⟩ hV398 hF402 e403 e404 hp408 hp409 (by (have e : V395 90 2 = y381 := e405); rw [e]; exact ow_68_38 hm119 hpr219 b226 hpr363 b370 e382) hRX (by rw [(show V395 90 33 = y410 from e411), (show V395 90 4 = y387 from e407)]; (clear hmp0 e2 b3 e5 b6 e8 b9 e11 b12 e14 b15 e17 b18 hsz b23 c25 c26 e35 e36 e37 e40 b41 e43 b44 e46 b47 hpr48 b54 c56 b61 c63 b68 c70 b75 c77 c79 e88 e89 e90 e93 b94 e96 b97 e99 b100 hpr101 b107 c109 b111 e115 e116 hm119 hx122 hm127 b132 b138 b141 hLn hMo c142 e207 e208 e211 b212 e214 b215 b218 b226 hxp231 hxp232 e235 e236 b239 b242 b245 b248 c249 e351 e352 e355 b356 e358 b359 b362 e379 e380 e382 b383 e385 b386 b389 b392 htk q397 e403 e404 e405 e406 b412; exact ow_68_39 hx121 e134 b135 e140 ‹V112 90 3 ≤ 4 * (V112 90 2 - V112 90 4)› e209 hpr219 e247 htk ‹V223 90 33 + V200 90 4 ≤ V223 90 4 + V200 90 33› b254 c256 e353 hpr363 e388 hSl hxp400 e411)) (by rw [(show V395 90 3 = y384 from e406)]; exact ow_68_40 e406 b417) (hT.trans (pf_val_inl hb125)) rfl
                            · skip
                              replace hb125 := hb125.trans (if_neg (fun q => q c393))
                              refine pm_iconst (v := 0) hC dX12_ruleLine_172 ?_
                              replace hT := hT.trans (pf_val_inr hb125)
                              exact pm_iret hC hR (pm_narZ (by exact ow_68_2)) ⟨0, rfl, ⟨by exact ow_68_3, by exact ow_68_4, by exact ow_68_10, by exact ow_68_41 hm119 hpr219 b226 hpr363 b370⟩, hV371, hF378, hg373, hg374, (fun q => absurd q (by decide)), (fun q => absurd q (by decide)), hT⟩ dX12_ruleLine_173
                          · skip
                            exfalso; exact ow_68_43 c342
                      · skip
                        replace hb125 := hb125.trans (if_neg (fun q => q c249))
                        refine pm_iconst (v := 0) hC dX12_ruleLine_123 ?_
                        replace hT := hT.trans (pf_val_inr hb125)
                        exact pm_iret hC hR (pm_narZ (by exact ow_68_2)) ⟨0, rfl, ⟨by exact ow_68_3, by exact ow_68_4, by exact ow_68_10, by exact ow_68_32 hm119 hpr219 b226⟩, hV227, hF234, hg229, hg230, (fun q => absurd q (by decide)), (fun q => absurd q (by decide)), hT⟩ dX12_ruleLine_124
                  refine pm_lvsub [2, 1, 0] (lv' := [(0, (3, 90)), (1, (0, 3)), (2, (0, 1))]) rfl ?_
                  exact L126 _ 1 V81 ⟨by decide, by decide⟩ hV83 hF87 e89 e90 hg85 htk102 (by (have e : V81 90 2 = y92 := e93); rw [e]; exact ow_68_44 hpr48 e93 hpr101) hRX (by rw [(show V81 90 33 = y1 from e88), (show V81 90 4 = y98 from e99)]; omega) (by rw [(show V81 90 3 = y95 from e96)]; exact ow_68_45 e96 b107 c109) hT rfl
                · skip
                  replace hT := hT.trans (if_neg (fun q => q c109))
                  refine pm_iconst (v := 0) hC dX12_ruleLine_104 ?_
                  exact pm_iret hC hR (pm_narZ (by exact ow_68_2)) ⟨0, rfl, ⟨by exact ow_68_3, by exact ow_68_4, by exact ow_68_10, by exact ow_68_46 hpr48 hpr101⟩, hV83, hF87, hg85, htk102, (fun q => absurd q (by decide)), (fun q => absurd q (by decide)), hT⟩ dX12_ruleLine_105
              · skip
                exfalso; exact ow_68_47 c79
          · skip
            replace hT := hT.trans (if_neg c70)
            refine pm_iconst (v := 2) hC dX12_ruleLine_63 ?_
            refine pm_goto (tgt := 82) hC dX12_ruleLine_64 (by decide) ?_
            refine pm_istore_n (lv' := [(1, (0, 2)), (0, (3, 90))]) hC dX12_ruleLine_82 (by decide) rfl ?_
            refine pm_iload_n hC 0 dX12_ruleLine_83 rfl ?_
            refine pm_iconst (v := (-1)) hC dX12_ruleLine_84 ?_
            refine pm_icmp_ne (tgt := 90) hC ⟨by decide, by decide⟩ ⟨by decide, by decide⟩ dX12_ruleLine_85 (by decide) (fun c419 => ?_) (fun c419 => ?_)
            · skip
              refine pm_aload_n hC 1 (by decide) dX12_ruleLine_90 rfl ?_
              refine pm_callV (ci := 12) (as := []) (st := []) hC 90 fP_X12_leads lm_X12_148 li_X12_leads (by decide) (by decide) rfl rfl rfl (by decide) rfl rfl (Nat.le_of_ble_eq_true rfl) ⟨Nat.le_refl _, Or.inl rfl⟩ dX12_ruleLine_91 ⟨rfl, hV30, hg32⟩ (fun r420 V421 hp422 => ?_)
              obtain ⟨rfl, hV423, hF424, hg425, hE426⟩ := hp422
              replace hT := hT.trans (pf_call_eq hE426)
              change pm_J X 94 [(1, (0, 2)), (0, (3, 90))] [] 118 V421
              have hF427 := pm_fs.tr hF34 hF424 (by decide) (by decide)
              have e428 : V421 90 33 = y1 := by rw [hF424.2 33 (by decide)]; exact e35
              have e429 : V421 90 1 = y7 := by rw [hF424.2 1 (by decide)]; exact e36
              have e430 : V421 90 32 = y16 := by rw [hF424.2 32 (by decide)]; exact e37
              have hp431 : pm_RLn V421 := (pm_RLn.fr hp38 (hF424.2 32 (by decide)) (hF424.2 33 (by decide)) (hF424.1 107 (by decide) (by decide)))
              obtain ⟨y432, e433⟩ : ∃ y, V421 90 2 = y := ⟨_, rfl⟩
              have b434 := hV423.get 90 2 (lo := 0) (hi := 500) (by decide) (by decide) rfl
              rw [e433] at b434
              replace hT := hT.trans (pf_let_eq e433)
              obtain ⟨y435, e436⟩ : ∃ y, V421 90 3 = y := ⟨_, rfl⟩
              have b437 := hV423.get 90 3 (lo := 0) (hi := 4) (by decide) (by decide) rfl
              rw [e436] at b437
              replace hT := hT.trans (pf_let_eq e436)
              obtain ⟨y438, e439⟩ : ∃ y, V421 90 4 = y := ⟨_, rfl⟩
              have b440 := hV423.get 90 4 (lo := 0) (hi := 500) (by decide) (by decide) rfl
              rw [e439] at b440
              replace hT := hT.trans (pf_let_eq e439)
              have hpr441 := r_leads_pr hV30 hg32 hE426
              have htk442 : pm_tk V421 := hpr441.2.2.2.1
              have hRX := hRX.fr (hF424.1 107 (by decide) (by decide)) (hF424.2 33 (by decide))
              refine pm_aload_n hC 1 (by decide) dX12_ruleLine_94 rfl ?_
              refine pm_ldcwS (tx := "if") (q := 16) hC (by decide) dX12_ruleLine_95 ?_
              change pm_J X 98 [(1, (0, 2)), (0, (3, 90))] [(4, 16), (3, 90)] 118 V421
              refine pm_callV (ci := 12) (as := [(4, 16)]) (st := []) hC 90 (fP_X12_isWord 16 ⟨by decide, by decide⟩) lm_X12_156 li_X12_isWord (by decide) (by decide) rfl rfl rfl (by decide) rfl rfl (Nat.le_of_ble_eq_true rfl) ⟨Nat.le_refl _, Or.inl rfl⟩ dX12_ruleLine_98 ⟨rfl, hV423⟩ (fun r443 V444 hp445 => ?_)
              obtain ⟨y446, rfl, b447, rfl, hE448⟩ := hp445
              replace hT := hT.trans (pf_call_eq hE448)
              change pm_J X 101 [(1, (0, 2)), (0, (3, 90))] [(0, y446)] 118 V421
              refine pm_if_ne (tgt := 106) hC ⟨by exact ow_68_0 b447, by exact ow_68_1 b447⟩ dX12_ruleLine_101 (by decide) (fun c449 => ?_) (fun c449 => ?_)
              · skip
                replace hT := hT.trans (if_pos c449)
                refine pm_iconst (v := 1) hC dX12_ruleLine_106 ?_
                refine pm_istore_n (lv' := [(2, (0, 1)), (1, (0, 2)), (0, (3, 90))]) hC dX12_ruleLine_107 (by decide) rfl ?_
                obtain ⟨B463, hB464, hT⟩ := pf_loop hT
                have L466 : ∀ (N468 : Nat) (x450 : Int) (V452 : pm_M), (0 ≤ x450 ∧ x450 ≤ 1) → pm_oq pm_qP V452 → pm_fs [107, 109] [2, 3, 4, 5, 32, 33, 37, 39] V0 V452 → V452 90 1 = y7 → V452 90 32 = y16 → pm_az V452 → pm_tk V452 → (V0 90 2 ≤ V452 90 2) → (pm_RX V452 0 (V0 90 32)) → (V452 90 33 + 2 ≤ V452 90 4) → (x450 = 1 → V452 90 3 = 1) → F_X12_ruleLine  V0 = pf_val ((0 : Int), V0) B463 (x450, V452) → (Int.toNat (2 * (5 * (500 - V452 90 2) + V452 90 3) + x450)) = N468 → pm_J X 108 [(0, (3, 90)), (1, (0, 2)), (2, (0, x450))] [] 118 V452 := by
                  intro N468
                  induction N468 using Nat.strongRecOn with
                  | _ N468 ih469 =>
                  intro x450 V452 b451 hV453 hF454 e455 e456 hp457 hp458 hm459 hx460 hx461 hx462 hT hm467
                  have hb465 := congrFun hB464 (x450, V452)
                  obtain ⟨y470, e471⟩ : ∃ y, V452 90 2 = y := ⟨_, rfl⟩
                  have b472 := hV453.get 90 2 (lo := 0) (hi := 500) (by decide) (by decide) rfl
                  rw [e471] at b472
                  replace hb465 := hb465.trans (pf_let_eq e471)
                  obtain ⟨y473, e474⟩ : ∃ y, V452 90 3 = y := ⟨_, rfl⟩
                  have b475 := hV453.get 90 3 (lo := 0) (hi := 4) (by decide) (by decide) rfl
                  rw [e474] at b475
                  replace hb465 := hb465.trans (pf_let_eq e474)
                  obtain ⟨y476, e477⟩ : ∃ y, V452 90 4 = y := ⟨_, rfl⟩
                  have b478 := hV453.get 90 4 (lo := 0) (hi := 500) (by decide) (by decide) rfl
                  rw [e477] at b478
                  replace hb465 := hb465.trans (pf_let_eq e477)
                  obtain ⟨y479, e480⟩ : ∃ y, V452 90 33 = y := ⟨_, rfl⟩
                  have b481 := hV453.get 90 33 (lo := 0) (hi := 600) (by decide) (by decide) rfl
                  rw [e480] at b481
                  replace hb465 := hb465.trans (pf_let_eq e480)
                  have hRX := hx460
                  have hLn := hx461
                  have hMo := hx462
                  have htk := hp458
                  unfold pm_tk at htk
                  refine pm_iload_n hC 2 dX12_ruleLine_108 rfl ?_
                  refine pm_if_eq (tgt := 191) hC ⟨by exact ow_68_12 b451, by exact ow_68_13 b451⟩ dX12_ruleLine_109 (by decide) (fun c482 => ?_) (fun c482 => ?_)
                  · skip
                    replace hb465 := hb465.trans (if_pos c482)
                    refine pm_aload_n hC 0 (by decide) dX12_ruleLine_191 rfl ?_
                    refine pm_bipush (v := 7) hC dX12_ruleLine_192 (by decide) ?_
                    refine pm_iload_n hC 1 dX12_ruleLine_194 rfl ?_
                    have q486 : 0 ≤ V452 90 33 ∧ V452 90 33 ≤ 599 := by (have e : V452 90 33 = y479 := e480); rw [e]; exact ⟨by exact ow_68_14 b481, by exact ow_68_15 hx461 e477 b478 e480⟩
                    refine pm_callV (ci := 12) (as := [(0, 7), (0, 2)]) (st := []) hC 90 (fP_X12_lays 7 2 ⟨by decide, by decide⟩ ⟨by decide, by decide⟩) lm_X12_248 li_X12_lays (by decide) (by decide) rfl rfl rfl (by decide) rfl rfl (Nat.le_of_ble_eq_true rfl) ⟨Nat.le_refl _, Or.inl rfl⟩ dX12_ruleLine_195 ⟨rfl, hV453, q486⟩ (fun r483 V484 hp485 => ?_)
                    obtain ⟨rfl, hV487, hF488, hxp489, hE490⟩ := hp485
                    replace hb465 := hb465.trans (pf_call_eq hE490)
                    change pm_J X 198 [(0, (3, 90)), (1, (0, 2)), (2, (0, x450))] [] 118 V484
                    have hF491 := pm_fs.tr hF454 hF488 (by decide) (by decide)
                    have e492 : V484 90 1 = y7 := by rw [hF488.2 1 (by decide)]; exact e455
                    have e493 : V484 90 32 = y16 := by rw [hF488.2 32 (by decide)]; exact e456
                    have e494 : V484 90 2 = y470 := by rw [hF488.2 2 (by decide)]; exact e471
                    have e495 : V484 90 3 = y473 := by rw [hF488.2 3 (by decide)]; exact e474
                    have e496 : V484 90 4 = y476 := by rw [hF488.2 4 (by decide)]; exact e477
                    have hp497 : pm_az V484 := (pm_az.fr hp457 (hF488.2 1 (by decide)) (hF488.2 2 (by decide)))
                    have hp498 : pm_tk V484 := (pm_tk.fr hp458 (hF488.2 2 (by decide)) (hF488.2 3 (by decide)) (hF488.2 4 (by decide)))
                    obtain ⟨y499, e500⟩ : ∃ y, V484 90 33 = y := ⟨_, rfl⟩
                    have b501 := hV487.get 90 33 (lo := 0) (hi := 600) (by decide) (by decide) rfl
                    rw [e500] at b501
                    replace hb465 := hb465.trans (pf_let_eq e500)
                    have hRX : pm_RX V484 0 (V0 90 32 + 1) := hRX.last (by exact ow_68_16 q486) hE490 (by decide)
                    refine pm_aload_n hC 0 (by decide) dX12_ruleLine_198 rfl ?_
                    refine pm_dup hC rfl dX12_ruleLine_199 ?_
                    refine pm_getf (v := y16) hC 90 fl_X12_271 rfl rfl (by decide) rfl e493 dX12_ruleLine_200 ?_
                    refine pm_iconst (v := 1) hC dX12_ruleLine_203 ?_
                    refine pm_iadd hC dX12_ruleLine_204 ?_
                    refine pm_putf hC 90 fl_X12_271 rfl rfl rfl (by decide) rfl trivial dX12_ruleLine_205 ?_
                    refine pm_aload_n hC 0 (by decide) dX12_ruleLine_208 rfl ?_
                    have hV504 := (hV487.put 90 32 (x := (y16 + 1)) (lo := 0) (hi := 10) rfl ⟨by exact ow_68_17 b18, by (exact ow_68_18 b18 c26)⟩)
                    have hF505 := (hF491.upf 32 (y16 + 1) rfl)
                    obtain ⟨V502, hv503⟩ : ∃ V, V = (pm_up V484 90 32 (y16 + 1)) := ⟨_, rfl⟩
                    rw [← hv503] at hV504 hF505
                    rw [← hv503]
                    replace hb465 := hb465.trans (pf_let_eq hv503.symm)
                    have e506 : V502 90 1 = y7 := by rw [hv503]; exact e492
                    have e507 : V502 90 2 = y470 := by rw [hv503]; exact e494
                    have e508 : V502 90 3 = y473 := by rw [hv503]; exact e495
                    have e509 : V502 90 4 = y476 := by rw [hv503]; exact e496
                    have e510 : V502 90 33 = y499 := by rw [hv503]; exact e500
                    have e511 : V502 90 32 = (y16 + 1) := by rw [hv503]; rfl
                    have hp512 : pm_az V502 := by rw [hv503]; exact (pm_az.fr hp497 rfl rfl)
                    have hp513 : pm_tk V502 := by rw [hv503]; exact (pm_tk.fr hp498 rfl rfl rfl)
                    have hrl514 : pm_RLn V502 := by rw [hv503]; exact pm_RLn.mk hRX (by exact ow_68_19 e17)
                    refine pm_callV (ci := 12) (as := []) (st := []) hC 90 fP_X12_closes lm_X12_183 li_X12_closes (by decide) (by decide) rfl rfl rfl (by decide) rfl rfl (Nat.le_of_ble_eq_true rfl) ⟨Nat.le_refl _, Or.inl rfl⟩ dX12_ruleLine_209 ⟨rfl, hV504, hp512, hp513⟩ (fun r515 V516 hp517 => ?_)
                    obtain ⟨y518, rfl, b519, hV520, hF521, hg522, hg523, hE524⟩ := hp517
                    replace hb465 := hb465.trans (pf_call_eq hE524)
                    change pm_J X 212 [(0, (3, 90)), (1, (0, 2)), (2, (0, x450))] [(0, y518)] 118 V516
                    have hF525 := pm_fs.tr hF505 hF521 (by decide) (by decide)
                    have e526 : V516 90 1 = y7 := by rw [hF521.2 1 (by decide)]; exact e506
                    have e527 : V516 90 33 = y499 := by rw [hF521.2 33 (by decide)]; exact e510
                    have e528 : V516 90 32 = (y16 + 1) := by rw [hF521.2 32 (by decide)]; exact e511
                    have hp529 : pm_RLn V516 := (pm_RLn.fr hrl514 (hF521.2 32 (by decide)) (hF521.2 33 (by decide)) (hF521.1 107 (by decide) (by decide)))
                    obtain ⟨y530, e531⟩ : ∃ y, V516 90 2 = y := ⟨_, rfl⟩
                    have b532 := hV520.get 90 2 (lo := 0) (hi := 500) (by decide) (by decide) rfl
                    rw [e531] at b532
                    replace hb465 := hb465.trans (pf_let_eq e531)
                    obtain ⟨y533, e534⟩ : ∃ y, V516 90 3 = y := ⟨_, rfl⟩
                    have b535 := hV520.get 90 3 (lo := 0) (hi := 4) (by decide) (by decide) rfl
                    rw [e534] at b535
                    replace hb465 := hb465.trans (pf_let_eq e534)
                    obtain ⟨y536, e537⟩ : ∃ y, V516 90 4 = y := ⟨_, rfl⟩
                    have b538 := hV520.get 90 4 (lo := 0) (hi := 500) (by decide) (by decide) rfl
                    rw [e537] at b538
                    replace hb465 := hb465.trans (pf_let_eq e537)
                    replace hT := hT.trans (pf_val_inr hb465)
                    exact pm_iret hC hR (pm_narZ (by exact ow_68_20 b519)) ⟨y518, rfl, ⟨by exact ow_68_21 b519, by exact ow_68_22 b519, by exact ow_68_23 hm459 e471 e507 b519, by exact ow_68_24 hm459 e471 e507 b519⟩, hV520, hF525, hg522, hg523, (fun _ => hp529), (fun _ => by exact ow_68_25 hx461 e477 hxp489 e500 e509 b519 e527), hT⟩ dX12_ruleLine_212
                  · skip
                    replace hb465 := hb465.trans (if_neg c482)
                    refine pm_aload_n hC 0 (by decide) dX12_ruleLine_112 rfl ?_
                    refine pm_callV (ci := 12) (as := []) (st := []) hC 90 fP_X12_leads lm_X12_148 li_X12_leads (by decide) (by decide) rfl rfl rfl (by decide) rfl rfl (Nat.le_of_ble_eq_true rfl) ⟨Nat.le_refl _, Or.inl rfl⟩ dX12_ruleLine_113 ⟨rfl, hV453, hp457⟩ (fun r539 V540 hp541 => ?_)
                    obtain ⟨rfl, hV542, hF543, hg544, hE545⟩ := hp541
                    replace hb465 := hb465.trans (pf_call_eq hE545)
                    change pm_J X 116 [(0, (3, 90)), (1, (0, 2)), (2, (0, x450))] [] 118 V540
                    have hF546 := pm_fs.tr hF454 hF543 (by decide) (by decide)
                    have e547 : V540 90 1 = y7 := by rw [hF543.2 1 (by decide)]; exact e455
                    have e548 : V540 90 32 = y16 := by rw [hF543.2 32 (by decide)]; exact e456
                    have e549 : V540 90 33 = y479 := by rw [hF543.2 33 (by decide)]; exact e480
                    obtain ⟨y550, e551⟩ : ∃ y, V540 90 2 = y := ⟨_, rfl⟩
                    have b552 := hV542.get 90 2 (lo := 0) (hi := 500) (by decide) (by decide) rfl
                    rw [e551] at b552
                    replace hb465 := hb465.trans (pf_let_eq e551)
                    obtain ⟨y553, e554⟩ : ∃ y, V540 90 3 = y := ⟨_, rfl⟩
                    have b555 := hV542.get 90 3 (lo := 0) (hi := 4) (by decide) (by decide) rfl
                    rw [e554] at b555
                    replace hb465 := hb465.trans (pf_let_eq e554)
                    obtain ⟨y556, e557⟩ : ∃ y, V540 90 4 = y := ⟨_, rfl⟩
                    have b558 := hV542.get 90 4 (lo := 0) (hi := 500) (by decide) (by decide) rfl
                    rw [e557] at b558
                    replace hb465 := hb465.trans (pf_let_eq e557)
                    have hpr559 := r_leads_pr hV453 hp457 hE545
                    have htk560 : pm_tk V540 := hpr559.2.2.2.1
                    have hRX := hRX.fr (hF543.1 107 (by decide) (by decide)) (hF543.2 33 (by decide))
                    refine pm_aload_n hC 0 (by decide) dX12_ruleLine_116 rfl ?_
                    have hrw561 : pm_rw V540 := ⟨hRX.1, by rw [hRX.2.1]; decide⟩
                    refine pm_callV (ci := 12) (as := []) (st := []) hC 90 fP_X12_sumHere lm_X12_284 li_X12_sumHere (by decide) (by decide) rfl rfl rfl (by decide) rfl rfl (Nat.le_of_ble_eq_true rfl) ⟨Nat.le_refl _, Or.inl rfl⟩ dX12_ruleLine_117 ⟨rfl, hV542, (show V540 90 33 ≤ V540 90 4 by exact ow_68_26 hx461 e474 b475 e480 htk e549 hpr559), hg544, htk560, hrw561⟩ (fun r562 V563 hp564 => ?_)
                    obtain ⟨y565, rfl, b566, hV567, hF568, hg569, hg570, hxp571, hxp572, hE573⟩ := hp564
                    replace hb465 := hb465.trans (pf_call_eq hE573)
                    change pm_J X 120 [(0, (3, 90)), (1, (0, 2)), (2, (0, x450))] [(0, y565)] 118 V563
                    have hF574 := pm_fs.tr hF546 hF568 (by decide) (by decide)
                    have e575 : V563 90 1 = y7 := by rw [hF568.2 1 (by decide)]; exact e547
                    have e576 : V563 90 32 = y16 := by rw [hF568.2 32 (by decide)]; exact e548
                    obtain ⟨y577, e578⟩ : ∃ y, V563 90 2 = y := ⟨_, rfl⟩
                    have b579 := hV567.get 90 2 (lo := 0) (hi := 500) (by decide) (by decide) rfl
                    rw [e578] at b579
                    replace hb465 := hb465.trans (pf_let_eq e578)
                    obtain ⟨y580, e581⟩ : ∃ y, V563 90 3 = y := ⟨_, rfl⟩
                    have b582 := hV567.get 90 3 (lo := 0) (hi := 4) (by decide) (by decide) rfl
                    rw [e581] at b582
                    replace hb465 := hb465.trans (pf_let_eq e581)
                    obtain ⟨y583, e584⟩ : ∃ y, V563 90 4 = y := ⟨_, rfl⟩
                    have b585 := hV567.get 90 4 (lo := 0) (hi := 500) (by decide) (by decide) rfl
                    rw [e584] at b585
                    replace hb465 := hb465.trans (pf_let_eq e584)
                    obtain ⟨y586, e587⟩ : ∃ y, V563 90 33 = y := ⟨_, rfl⟩
                    have b588 := hV567.get 90 33 (lo := 0) (hi := 600) (by decide) (by decide) rfl
                    rw [e587] at b588
                    replace hb465 := hb465.trans (pf_let_eq e587)
                    have htk := hg570
                    unfold pm_tk at htk
                    refine pm_if_ne (tgt := 125) hC ⟨by exact ow_68_27 b566, by exact ow_68_28 b566⟩ dX12_ruleLine_120 (by decide) (fun c589 => ?_) (fun c589 => ?_)
                    · skip
                      replace hb465 := hb465.trans (if_pos c589)
                      have hRX := hRX.sum (h1 := 1) (hxp571 (by exact ow_68_29 b566 c589)) (by decide)
                      have hSl := hxp572 (by exact ow_68_29 b566 c589)
                      refine pm_aload_n hC 0 (by decide) dX12_ruleLine_125 rfl ?_
                      refine pm_bipush (v := 60) hC dX12_ruleLine_126 (by decide) ?_
                      refine pm_callV (ci := 12) (as := [(0, 60)]) (st := []) hC 90 (fP_X12_isSign 60 ⟨by decide, by decide⟩) lm_X12_145 li_X12_isSign (by decide) (by decide) rfl rfl rfl (by decide) rfl rfl (Nat.le_of_ble_eq_true rfl) ⟨Nat.le_refl _, Or.inl rfl⟩ dX12_ruleLine_128 ⟨rfl, hV567⟩ (fun r590 V591 hp592 => ?_)
                      obtain ⟨y593, rfl, b594, rfl, hE595⟩ := hp592
                      replace hb465 := hb465.trans (pf_call_eq hE595)
                      change pm_J X 131 [(0, (3, 90)), (1, (0, 2)), (2, (0, x450))] [(0, y593)] 118 V563
                      refine pm_if_eq (tgt := 138) hC ⟨by exact ow_68_30 b594, by exact ow_68_31 b594⟩ dX12_ruleLine_131 (by decide) (fun c596 => ?_) (fun c596 => ?_)
                      · skip
                        replace hb465 := hb465.trans (if_pos c596)
                        refine pm_aload_n hC 0 (by decide) dX12_ruleLine_138 rfl ?_
                        refine pm_bipush (v := 61) hC dX12_ruleLine_139 (by decide) ?_
                        refine pm_callV (ci := 12) (as := [(0, 61)]) (st := []) hC 90 (fP_X12_isSign 61 ⟨by decide, by decide⟩) lm_X12_145 li_X12_isSign (by decide) (by decide) rfl rfl rfl (by decide) rfl rfl (Nat.le_of_ble_eq_true rfl) ⟨Nat.le_refl _, Or.inl rfl⟩ dX12_ruleLine_141 ⟨rfl, hV567⟩ (fun r597 V598 hp599 => ?_)
                        obtain ⟨y600, rfl, b601, rfl, hE602⟩ := hp599
                        replace hb465 := hb465.trans (pf_call_eq hE602)
                        change pm_J X 144 [(0, (3, 90)), (1, (0, 2)), (2, (0, x450))] [(0, y600)] 118 V563
                        refine pm_if_eq (tgt := 152) hC ⟨by exact ow_68_30 b601, by exact ow_68_31 b601⟩ dX12_ruleLine_144 (by decide) (fun c603 => ?_) (fun c603 => ?_)
                        · skip
                          replace hb465 := hb465.trans (if_pos c603)
                          refine pm_iconst (v := (-1)) hC dX12_ruleLine_152 ?_
                          refine pm_istore_n (lv' := [(3, (0, (-1))), (0, (3, 90)), (1, (0, 2)), (2, (0, x450))]) hC dX12_ruleLine_153 (by decide) rfl ?_
                          refine pm_iload_n hC 0 dX12_ruleLine_154 rfl ?_
                          refine pm_iconst (v := (-1)) hC dX12_ruleLine_155 ?_
                          refine pm_icmp_ne (tgt := 161) hC ⟨by decide, by decide⟩ ⟨by decide, by decide⟩ dX12_ruleLine_156 (by decide) (fun c604 => ?_) (fun c604 => ?_)
                          · skip
                            exfalso; exact ow_68_9 c604
                          · skip
                            refine pm_iconst (v := 0) hC dX12_ruleLine_159 ?_
                            replace hT := hT.trans (pf_val_inr hb465)
                            exact pm_iret hC hR (pm_narZ (by exact ow_68_2)) ⟨0, rfl, ⟨by exact ow_68_3, by exact ow_68_4, by exact ow_68_10, by exact ow_68_32 hm459 hpr559 b566⟩, hV567, hF574, hg569, hg570, (fun q => absurd q (by decide)), (fun q => absurd q (by decide)), hT⟩ dX12_ruleLine_160
                        · skip
                          replace hb465 := hb465.trans (if_neg c603)
                          refine pm_bipush (v := 6) hC dX12_ruleLine_147 (by decide) ?_
                          refine pm_goto (tgt := 153) hC dX12_ruleLine_149 (by decide) ?_
                          refine pm_istore_n (lv' := [(3, (0, 6)), (0, (3, 90)), (1, (0, 2)), (2, (0, x450))]) hC dX12_ruleLine_153 (by decide) rfl ?_
                          refine pm_iload_n hC 0 dX12_ruleLine_154 rfl ?_
                          refine pm_iconst (v := (-1)) hC dX12_ruleLine_155 ?_
                          refine pm_icmp_ne (tgt := 161) hC ⟨by decide, by decide⟩ ⟨by decide, by decide⟩ dX12_ruleLine_156 (by decide) (fun c605 => ?_) (fun c605 => ?_)
                          · skip
                            refine pm_aload_n hC 1 (by decide) dX12_ruleLine_161 rfl ?_
                            refine pm_callV (ci := 12) (as := []) (st := []) hC 90 fP_X12_leads lm_X12_148 li_X12_leads (by decide) (by decide) rfl rfl rfl (by decide) rfl rfl (Nat.le_of_ble_eq_true rfl) ⟨Nat.le_refl _, Or.inl rfl⟩ dX12_ruleLine_162 ⟨rfl, hV567, hg569⟩ (fun r606 V607 hp608 => ?_)
                            obtain ⟨rfl, hV609, hF610, hg611, hE612⟩ := hp608
                            replace hb465 := hb465.trans (pf_call_eq hE612)
                            change pm_J X 165 [(3, (0, 6)), (0, (3, 90)), (1, (0, 2)), (2, (0, x450))] [] 118 V607
                            have hF613 := pm_fs.tr hF574 hF610 (by decide) (by decide)
                            have e614 : V607 90 1 = y7 := by rw [hF610.2 1 (by decide)]; exact e575
                            have e615 : V607 90 32 = y16 := by rw [hF610.2 32 (by decide)]; exact e576
                            have e616 : V607 90 33 = y586 := by rw [hF610.2 33 (by decide)]; exact e587
                            obtain ⟨y617, e618⟩ : ∃ y, V607 90 2 = y := ⟨_, rfl⟩
                            have b619 := hV609.get 90 2 (lo := 0) (hi := 500) (by decide) (by decide) rfl
                            rw [e618] at b619
                            replace hb465 := hb465.trans (pf_let_eq e618)
                            obtain ⟨y620, e621⟩ : ∃ y, V607 90 3 = y := ⟨_, rfl⟩
                            have b622 := hV609.get 90 3 (lo := 0) (hi := 4) (by decide) (by decide) rfl
                            rw [e621] at b622
                            replace hb465 := hb465.trans (pf_let_eq e621)
                            obtain ⟨y623, e624⟩ : ∃ y, V607 90 4 = y := ⟨_, rfl⟩
                            have b625 := hV609.get 90 4 (lo := 0) (hi := 500) (by decide) (by decide) rfl
                            rw [e624] at b625
                            replace hb465 := hb465.trans (pf_let_eq e624)
                            have hpr626 := r_leads_pr hV567 hg569 hE612
                            have htk627 : pm_tk V607 := hpr626.2.2.2.1
                            have hRX := hRX.fr (hF610.1 107 (by decide) (by decide)) (hF610.2 33 (by decide))
                            refine pm_aload_n hC 1 (by decide) dX12_ruleLine_165 rfl ?_
                            have hrw628 : pm_rw V607 := ⟨hRX.1, by rw [hRX.2.1]; decide⟩
                            refine pm_callV (ci := 12) (as := []) (st := []) hC 90 fP_X12_sumHere lm_X12_284 li_X12_sumHere (by decide) (by decide) rfl rfl rfl (by decide) rfl rfl (Nat.le_of_ble_eq_true rfl) ⟨Nat.le_refl _, Or.inl rfl⟩ dX12_ruleLine_166 ⟨rfl, hV609, (show V607 90 33 ≤ V607 90 4 by exact ow_68_33 hx461 e474 b475 e480 ‹V452 90 3 ≤ 4 * (V452 90 2 - V452 90 4)› e549 hpr559 e581 b582 e587 htk hSl e616 hpr626), hg611, htk627, hrw628⟩ (fun r629 V630 hp631 => ?_)
                            obtain ⟨y632, rfl, b633, hV634, hF635, hg636, hg637, hxp638, hxp639, hE640⟩ := hp631
                            replace hb465 := hb465.trans (pf_call_eq hE640)
                            change pm_J X 169 [(3, (0, 6)), (0, (3, 90)), (1, (0, 2)), (2, (0, x450))] [(0, y632)] 118 V630
                            have hF641 := pm_fs.tr hF613 hF635 (by decide) (by decide)
                            have e642 : V630 90 1 = y7 := by rw [hF635.2 1 (by decide)]; exact e614
                            have e643 : V630 90 32 = y16 := by rw [hF635.2 32 (by decide)]; exact e615
                            obtain ⟨y644, e645⟩ : ∃ y, V630 90 2 = y := ⟨_, rfl⟩
                            have b646 := hV634.get 90 2 (lo := 0) (hi := 500) (by decide) (by decide) rfl
                            rw [e645] at b646
                            replace hb465 := hb465.trans (pf_let_eq e645)
                            obtain ⟨y647, e648⟩ : ∃ y, V630 90 3 = y := ⟨_, rfl⟩
                            have b649 := hV634.get 90 3 (lo := 0) (hi := 4) (by decide) (by decide) rfl
                            rw [e648] at b649
                            replace hb465 := hb465.trans (pf_let_eq e648)
                            obtain ⟨y650, e651⟩ : ∃ y, V630 90 4 = y := ⟨_, rfl⟩
                            have b652 := hV634.get 90 4 (lo := 0) (hi := 500) (by decide) (by decide) rfl
                            rw [e651] at b652
                            replace hb465 := hb465.trans (pf_let_eq e651)
                            obtain ⟨y653, e654⟩ : ∃ y, V630 90 33 = y := ⟨_, rfl⟩
                            have b655 := hV634.get 90 33 (lo := 0) (hi := 600) (by decide) (by decide) rfl
                            rw [e654] at b655
                            replace hb465 := hb465.trans (pf_let_eq e654)
                            have htk := hg637
                            unfold pm_tk at htk
                            refine pm_if_ne (tgt := 174) hC ⟨by exact ow_68_27 b633, by exact ow_68_28 b633⟩ dX12_ruleLine_169 (by decide) (fun c656 => ?_) (fun c656 => ?_)
                            · skip
                              replace hb465 := hb465.trans (if_pos c656)
                              have hRX := hRX.sum (h1 := 2) (hxp638 (by exact ow_68_29 b633 c656)) (by decide)
                              have hSl := hxp639 (by exact ow_68_29 b633 c656)
                              refine pm_aload_n hC 1 (by decide) dX12_ruleLine_174 rfl ?_
                              refine pm_iload_n hC 0 dX12_ruleLine_175 rfl ?_
                              refine pm_iconst (v := 0) hC dX12_ruleLine_176 ?_
                              have q660 : 0 ≤ V630 90 33 ∧ V630 90 33 ≤ 599 := by (have e : V630 90 33 = y653 := e654); rw [e]; exact ⟨by exact ow_68_14 b655, by (clear hmp0 e2 b3 e5 b6 e8 b9 e11 b12 e14 b15 e17 b18 hsz b23 c25 c26 e35 e36 e37 e40 b41 e43 b44 e46 b47 hpr48 b54 c56 b61 c63 b68 c70 c419 e428 e429 e430 e433 b434 e436 b437 e439 b440 hpr441 b447 c449 b451 e455 e456 hm459 hx462 hm467 b472 b478 b481 hLn hMo c482 e547 e548 e551 b552 e554 b555 b558 b566 hxp571 hxp572 e575 e576 b579 b585 b588 c589 b594 c596 b601 c603 c605 e614 e615 e618 b619 e621 b622 b625 b633 hxp638 hxp639 e642 e643 e645 b646 e648 b649 htk c656 e; exact ow_68_34 hx461 e474 b475 e480 ‹V452 90 3 ≤ 4 * (V452 90 2 - V452 90 4)› e549 hpr559 e581 b582 e587 htk ‹V563 90 33 + V540 90 4 ≤ V563 90 4 + V540 90 33› e616 hpr626 e651 b652 e654 hSl)⟩
                              refine pm_callV (ci := 12) (as := [(0, 6), (0, 0)]) (st := []) hC 90 (fP_X12_lays 6 0 ⟨by decide, by decide⟩ ⟨by decide, by decide⟩) lm_X12_248 li_X12_lays (by decide) (by decide) rfl rfl rfl (by decide) rfl rfl (Nat.le_of_ble_eq_true rfl) ⟨Nat.le_refl _, Or.inl rfl⟩ dX12_ruleLine_177 ⟨rfl, hV634, q660⟩ (fun r657 V658 hp659 => ?_)
                              obtain ⟨rfl, hV661, hF662, hxp663, hE664⟩ := hp659
                              replace hb465 := hb465.trans (pf_call_eq hE664)
                              change pm_J X 180 [(3, (0, 6)), (0, (3, 90)), (1, (0, 2)), (2, (0, x450))] [] 118 V658
                              have hF665 := pm_fs.tr hF641 hF662 (by decide) (by decide)
                              have e666 : V658 90 1 = y7 := by rw [hF662.2 1 (by decide)]; exact e642
                              have e667 : V658 90 32 = y16 := by rw [hF662.2 32 (by decide)]; exact e643
                              have e668 : V658 90 2 = y644 := by rw [hF662.2 2 (by decide)]; exact e645
                              have e669 : V658 90 3 = y647 := by rw [hF662.2 3 (by decide)]; exact e648
                              have e670 : V658 90 4 = y650 := by rw [hF662.2 4 (by decide)]; exact e651
                              have hp671 : pm_az V658 := (pm_az.fr hg636 (hF662.2 1 (by decide)) (hF662.2 2 (by decide)))
                              have hp672 : pm_tk V658 := (pm_tk.fr hg637 (hF662.2 2 (by decide)) (hF662.2 3 (by decide)) (hF662.2 4 (by decide)))
                              obtain ⟨y673, e674⟩ : ∃ y, V658 90 33 = y := ⟨_, rfl⟩
                              have b675 := hV661.get 90 33 (lo := 0) (hi := 600) (by decide) (by decide) rfl
                              rw [e674] at b675
                              replace hb465 := hb465.trans (pf_let_eq e674)
                              have hRX : pm_RX V658 0 (V0 90 32) := hRX.lay (by exact ow_68_16 q660) hE664 (by decide) (Or.inr rfl)
                              refine pm_aload_n hC 1 (by decide) dX12_ruleLine_180 rfl ?_
                              refine pm_ldcwS (tx := "and") (q := 17) hC (by decide) dX12_ruleLine_181 ?_
                              change pm_J X 184 [(3, (0, 6)), (0, (3, 90)), (1, (0, 2)), (2, (0, x450))] [(4, 17), (3, 90)] 118 V658
                              refine pm_callV (ci := 12) (as := [(4, 17)]) (st := []) hC 90 (fP_X12_isWord 17 ⟨by decide, by decide⟩) lm_X12_156 li_X12_isWord (by decide) (by decide) rfl rfl rfl (by decide) rfl rfl (Nat.le_of_ble_eq_true rfl) ⟨Nat.le_refl _, Or.inl rfl⟩ dX12_ruleLine_184 ⟨rfl, hV661⟩ (fun r676 V677 hp678 => ?_)
                              obtain ⟨y679, rfl, b680, rfl, hE681⟩ := hp678
                              replace hb465 := hb465.trans (pf_call_eq hE681)
                              change pm_J X 187 [(3, (0, 6)), (0, (3, 90)), (1, (0, 2)), (2, (0, x450))] [(0, y679)] 118 V658
                              refine pm_istore_n (lv' := [(2, (0, y679)), (3, (0, 6)), (0, (3, 90)), (1, (0, 2))]) hC dX12_ruleLine_187 (by decide) rfl ?_
                              refine pm_goto (tgt := 108) hC dX12_ruleLine_188 (by decide) ?_
                              refine pm_lvsub [2, 3, 0] (lv' := [(0, (3, 90)), (1, (0, 2)), (2, (0, y679))]) rfl ?_
                              exact ih469 _ (by (exact ow_68_35 b451 hm467 e471 b472 hMo c482 e554 b555 hpr559 b566 e621 b622 hpr626 b633 e645 e648 c656 e668 e669 b680)) y679 V658 ⟨by exact ow_68_36 b680, by exact ow_68_37 b680⟩ hV661 hF665 e666 e667 hp671 hp672 (by (have e : V658 90 2 = y644 := e668); rw [e]; exact ow_68_38 hm459 hpr559 b566 hpr626 b633 e645) hRX (by rw [(show V658 90 33 = y673 from e674), (show V658 90 4 = y650 from e670)]; (clear hmp0 e2 b3 e5 b6 e8 b9 e11 b12 e14 b15 e17 b18 hsz b23 c25 c26 e35 e36 e37 e40 b41 e43 b44 e46 b47 hpr48 b54 c56 b61 c63 b68 c70 c419 e428 e429 e430 e433 b434 e436 b437 e439 b440 hpr441 b447 c449 b451 e455 e456 hm459 hx462 hm467 b472 b478 b481 hLn hMo c482 e547 e548 e551 b552 e554 b555 b558 b566 hxp571 hxp572 e575 e576 b579 b582 b585 b588 c589 b594 c596 e614 e615 e618 b619 e621 b622 b625 e642 e643 e645 b646 e648 b649 b652 b655 htk q660 e666 e667 e668 e669 b675; exact ow_68_39 hx461 e474 b475 e480 ‹V452 90 3 ≤ 4 * (V452 90 2 - V452 90 4)› e549 hpr559 e587 htk ‹V563 90 33 + V540 90 4 ≤ V563 90 4 + V540 90 33› b601 c603 e616 hpr626 e651 hSl hxp663 e674)) (by rw [(show V658 90 3 = y647 from e669)]; exact ow_68_40 e669 b680) (hT.trans (pf_val_inl hb465)) rfl
                            · skip
                              replace hb465 := hb465.trans (if_neg (fun q => q c656))
                              refine pm_iconst (v := 0) hC dX12_ruleLine_172 ?_
                              replace hT := hT.trans (pf_val_inr hb465)
                              exact pm_iret hC hR (pm_narZ (by exact ow_68_2)) ⟨0, rfl, ⟨by exact ow_68_3, by exact ow_68_4, by exact ow_68_10, by exact ow_68_41 hm459 hpr559 b566 hpr626 b633⟩, hV634, hF641, hg636, hg637, (fun q => absurd q (by decide)), (fun q => absurd q (by decide)), hT⟩ dX12_ruleLine_173
                          · skip
                            exfalso; exact ow_68_42 c605
                      · skip
                        replace hb465 := hb465.trans (if_neg c596)
                        refine pm_iconst (v := 5) hC dX12_ruleLine_134 ?_
                        refine pm_goto (tgt := 153) hC dX12_ruleLine_135 (by decide) ?_
                        refine pm_istore_n (lv' := [(3, (0, 5)), (0, (3, 90)), (1, (0, 2)), (2, (0, x450))]) hC dX12_ruleLine_153 (by decide) rfl ?_
                        refine pm_iload_n hC 0 dX12_ruleLine_154 rfl ?_
                        refine pm_iconst (v := (-1)) hC dX12_ruleLine_155 ?_
                        refine pm_icmp_ne (tgt := 161) hC ⟨by decide, by decide⟩ ⟨by decide, by decide⟩ dX12_ruleLine_156 (by decide) (fun c682 => ?_) (fun c682 => ?_)
                        · skip
                          refine pm_aload_n hC 1 (by decide) dX12_ruleLine_161 rfl ?_
                          refine pm_callV (ci := 12) (as := []) (st := []) hC 90 fP_X12_leads lm_X12_148 li_X12_leads (by decide) (by decide) rfl rfl rfl (by decide) rfl rfl (Nat.le_of_ble_eq_true rfl) ⟨Nat.le_refl _, Or.inl rfl⟩ dX12_ruleLine_162 ⟨rfl, hV567, hg569⟩ (fun r683 V684 hp685 => ?_)
                          obtain ⟨rfl, hV686, hF687, hg688, hE689⟩ := hp685
                          replace hb465 := hb465.trans (pf_call_eq hE689)
                          change pm_J X 165 [(3, (0, 5)), (0, (3, 90)), (1, (0, 2)), (2, (0, x450))] [] 118 V684
                          have hF690 := pm_fs.tr hF574 hF687 (by decide) (by decide)
                          have e691 : V684 90 1 = y7 := by rw [hF687.2 1 (by decide)]; exact e575
                          have e692 : V684 90 32 = y16 := by rw [hF687.2 32 (by decide)]; exact e576
                          have e693 : V684 90 33 = y586 := by rw [hF687.2 33 (by decide)]; exact e587
                          obtain ⟨y694, e695⟩ : ∃ y, V684 90 2 = y := ⟨_, rfl⟩
                          have b696 := hV686.get 90 2 (lo := 0) (hi := 500) (by decide) (by decide) rfl
                          rw [e695] at b696
                          replace hb465 := hb465.trans (pf_let_eq e695)
                          obtain ⟨y697, e698⟩ : ∃ y, V684 90 3 = y := ⟨_, rfl⟩
                          have b699 := hV686.get 90 3 (lo := 0) (hi := 4) (by decide) (by decide) rfl
                          rw [e698] at b699
                          replace hb465 := hb465.trans (pf_let_eq e698)
                          obtain ⟨y700, e701⟩ : ∃ y, V684 90 4 = y := ⟨_, rfl⟩
                          have b702 := hV686.get 90 4 (lo := 0) (hi := 500) (by decide) (by decide) rfl
                          rw [e701] at b702
                          replace hb465 := hb465.trans (pf_let_eq e701)
                          have hpr703 := r_leads_pr hV567 hg569 hE689
                          have htk704 : pm_tk V684 := hpr703.2.2.2.1
                          have hRX := hRX.fr (hF687.1 107 (by decide) (by decide)) (hF687.2 33 (by decide))
                          refine pm_aload_n hC 1 (by decide) dX12_ruleLine_165 rfl ?_
                          have hrw705 : pm_rw V684 := ⟨hRX.1, by rw [hRX.2.1]; decide⟩
                          refine pm_callV (ci := 12) (as := []) (st := []) hC 90 fP_X12_sumHere lm_X12_284 li_X12_sumHere (by decide) (by decide) rfl rfl rfl (by decide) rfl rfl (Nat.le_of_ble_eq_true rfl) ⟨Nat.le_refl _, Or.inl rfl⟩ dX12_ruleLine_166 ⟨rfl, hV686, (show V684 90 33 ≤ V684 90 4 by exact ow_68_33 hx461 e474 b475 e480 ‹V452 90 3 ≤ 4 * (V452 90 2 - V452 90 4)› e549 hpr559 e581 b582 e587 htk hSl e693 hpr703), hg688, htk704, hrw705⟩ (fun r706 V707 hp708 => ?_)
                          obtain ⟨y709, rfl, b710, hV711, hF712, hg713, hg714, hxp715, hxp716, hE717⟩ := hp708
                          replace hb465 := hb465.trans (pf_call_eq hE717)
                          change pm_J X 169 [(3, (0, 5)), (0, (3, 90)), (1, (0, 2)), (2, (0, x450))] [(0, y709)] 118 V707
                          have hF718 := pm_fs.tr hF690 hF712 (by decide) (by decide)
                          have e719 : V707 90 1 = y7 := by rw [hF712.2 1 (by decide)]; exact e691
                          have e720 : V707 90 32 = y16 := by rw [hF712.2 32 (by decide)]; exact e692
                          obtain ⟨y721, e722⟩ : ∃ y, V707 90 2 = y := ⟨_, rfl⟩
                          have b723 := hV711.get 90 2 (lo := 0) (hi := 500) (by decide) (by decide) rfl
                          rw [e722] at b723
                          replace hb465 := hb465.trans (pf_let_eq e722)
                          obtain ⟨y724, e725⟩ : ∃ y, V707 90 3 = y := ⟨_, rfl⟩
                          have b726 := hV711.get 90 3 (lo := 0) (hi := 4) (by decide) (by decide) rfl
                          rw [e725] at b726
                          replace hb465 := hb465.trans (pf_let_eq e725)
                          obtain ⟨y727, e728⟩ : ∃ y, V707 90 4 = y := ⟨_, rfl⟩
                          have b729 := hV711.get 90 4 (lo := 0) (hi := 500) (by decide) (by decide) rfl
                          rw [e728] at b729
                          replace hb465 := hb465.trans (pf_let_eq e728)
                          obtain ⟨y730, e731⟩ : ∃ y, V707 90 33 = y := ⟨_, rfl⟩
                          have b732 := hV711.get 90 33 (lo := 0) (hi := 600) (by decide) (by decide) rfl
                          rw [e731] at b732
                          replace hb465 := hb465.trans (pf_let_eq e731)
                          have htk := hg714
                          unfold pm_tk at htk
                          refine pm_if_ne (tgt := 174) hC ⟨by exact ow_68_27 b710, by exact ow_68_28 b710⟩ dX12_ruleLine_169 (by decide) (fun c733 => ?_) (fun c733 => ?_)
                          · skip
                            replace hb465 := hb465.trans (if_pos c733)
                            have hRX := hRX.sum (h1 := 2) (hxp715 (by exact ow_68_29 b710 c733)) (by decide)
                            have hSl := hxp716 (by exact ow_68_29 b710 c733)
                            refine pm_aload_n hC 1 (by decide) dX12_ruleLine_174 rfl ?_
                            refine pm_iload_n hC 0 dX12_ruleLine_175 rfl ?_
                            refine pm_iconst (v := 0) hC dX12_ruleLine_176 ?_
                            have q737 : 0 ≤ V707 90 33 ∧ V707 90 33 ≤ 599 := by (have e : V707 90 33 = y730 := e731); rw [e]; exact ⟨by exact ow_68_14 b732, by (clear hmp0 e2 b3 e5 b6 e8 b9 e11 b12 e14 b15 e17 b18 hsz b23 c25 c26 e35 e36 e37 e40 b41 e43 b44 e46 b47 hpr48 b54 c56 b61 c63 b68 c70 c419 e428 e429 e430 e433 b434 e436 b437 e439 b440 hpr441 b447 c449 b451 e455 e456 hm459 hx462 hm467 b472 b478 b481 hLn hMo c482 e547 e548 e551 b552 e554 b555 b558 b566 hxp571 hxp572 e575 e576 b579 b585 b588 c589 b594 c596 c682 e691 e692 e695 b696 e698 b699 b702 b710 hxp715 hxp716 e719 e720 e722 b723 e725 b726 htk c733 e; exact ow_68_34 hx461 e474 b475 e480 ‹V452 90 3 ≤ 4 * (V452 90 2 - V452 90 4)› e549 hpr559 e581 b582 e587 htk ‹V563 90 33 + V540 90 4 ≤ V563 90 4 + V540 90 33› e693 hpr703 e728 b729 e731 hSl)⟩
                            refine pm_callV (ci := 12) (as := [(0, 5), (0, 0)]) (st := []) hC 90 (fP_X12_lays 5 0 ⟨by decide, by decide⟩ ⟨by decide, by decide⟩) lm_X12_248 li_X12_lays (by decide) (by decide) rfl rfl rfl (by decide) rfl rfl (Nat.le_of_ble_eq_true rfl) ⟨Nat.le_refl _, Or.inl rfl⟩ dX12_ruleLine_177 ⟨rfl, hV711, q737⟩ (fun r734 V735 hp736 => ?_)
                            obtain ⟨rfl, hV738, hF739, hxp740, hE741⟩ := hp736
                            replace hb465 := hb465.trans (pf_call_eq hE741)
                            change pm_J X 180 [(3, (0, 5)), (0, (3, 90)), (1, (0, 2)), (2, (0, x450))] [] 118 V735
                            have hF742 := pm_fs.tr hF718 hF739 (by decide) (by decide)
                            have e743 : V735 90 1 = y7 := by rw [hF739.2 1 (by decide)]; exact e719
                            have e744 : V735 90 32 = y16 := by rw [hF739.2 32 (by decide)]; exact e720
                            have e745 : V735 90 2 = y721 := by rw [hF739.2 2 (by decide)]; exact e722
                            have e746 : V735 90 3 = y724 := by rw [hF739.2 3 (by decide)]; exact e725
                            have e747 : V735 90 4 = y727 := by rw [hF739.2 4 (by decide)]; exact e728
                            have hp748 : pm_az V735 := (pm_az.fr hg713 (hF739.2 1 (by decide)) (hF739.2 2 (by decide)))
                            have hp749 : pm_tk V735 := (pm_tk.fr hg714 (hF739.2 2 (by decide)) (hF739.2 3 (by decide)) (hF739.2 4 (by decide)))
                            obtain ⟨y750, e751⟩ : ∃ y, V735 90 33 = y := ⟨_, rfl⟩
                            have b752 := hV738.get 90 33 (lo := 0) (hi := 600) (by decide) (by decide) rfl
                            rw [e751] at b752
                            replace hb465 := hb465.trans (pf_let_eq e751)
                            have hRX : pm_RX V735 0 (V0 90 32) := hRX.lay (by exact ow_68_16 q737) hE741 (by decide) (Or.inl rfl)
                            refine pm_aload_n hC 1 (by decide) dX12_ruleLine_180 rfl ?_
                            refine pm_ldcwS (tx := "and") (q := 17) hC (by decide) dX12_ruleLine_181 ?_
                            change pm_J X 184 [(3, (0, 5)), (0, (3, 90)), (1, (0, 2)), (2, (0, x450))] [(4, 17), (3, 90)] 118 V735
                            refine pm_callV (ci := 12) (as := [(4, 17)]) (st := []) hC 90 (fP_X12_isWord 17 ⟨by decide, by decide⟩) lm_X12_156 li_X12_isWord (by decide) (by decide) rfl rfl rfl (by decide) rfl rfl (Nat.le_of_ble_eq_true rfl) ⟨Nat.le_refl _, Or.inl rfl⟩ dX12_ruleLine_184 ⟨rfl, hV738⟩ (fun r753 V754 hp755 => ?_)
                            obtain ⟨y756, rfl, b757, rfl, hE758⟩ := hp755
                            replace hb465 := hb465.trans (pf_call_eq hE758)
                            change pm_J X 187 [(3, (0, 5)), (0, (3, 90)), (1, (0, 2)), (2, (0, x450))] [(0, y756)] 118 V735
                            refine pm_istore_n (lv' := [(2, (0, y756)), (3, (0, 5)), (0, (3, 90)), (1, (0, 2))]) hC dX12_ruleLine_187 (by decide) rfl ?_
                            refine pm_goto (tgt := 108) hC dX12_ruleLine_188 (by decide) ?_
                            refine pm_lvsub [2, 3, 0] (lv' := [(0, (3, 90)), (1, (0, 2)), (2, (0, y756))]) rfl ?_
                            exact ih469 _ (by (exact ow_68_48 b451 hm467 hMo c482 e554 b555 e557 b558 hpr559 b566 e698 b699 hpr703 b710 e722 e725 c733 e745 e746 b757)) y756 V735 ⟨by exact ow_68_36 b757, by exact ow_68_37 b757⟩ hV738 hF742 e743 e744 hp748 hp749 (by (have e : V735 90 2 = y721 := e745); rw [e]; exact ow_68_38 hm459 hpr559 b566 hpr703 b710 e722) hRX (by rw [(show V735 90 33 = y750 from e751), (show V735 90 4 = y727 from e747)]; (clear hmp0 e2 b3 e5 b6 e8 b9 e11 b12 e14 b15 e17 b18 hsz b23 c25 c26 e35 e36 e37 e40 b41 e43 b44 e46 b47 hpr48 b54 c56 b61 c63 b68 c70 c419 e428 e429 e430 e433 b434 e436 b437 e439 b440 hpr441 b447 c449 b451 e455 e456 hm459 hx462 hm467 b472 b478 b481 hLn hMo c482 e547 e548 e551 b552 e554 b555 b558 b566 hxp571 hxp572 e575 e576 b579 b582 b585 b588 c589 e691 e692 e695 b696 e698 b699 b702 e719 e720 e722 b723 e725 b726 b729 b732 htk q737 e743 e744 e745 e746 b752; exact ow_68_39 hx461 e474 b475 e480 ‹V452 90 3 ≤ 4 * (V452 90 2 - V452 90 4)› e549 hpr559 e587 htk ‹V563 90 33 + V540 90 4 ≤ V563 90 4 + V540 90 33› b594 c596 e693 hpr703 e728 hSl hxp740 e751)) (by rw [(show V735 90 3 = y724 from e746)]; exact ow_68_40 e746 b757) (hT.trans (pf_val_inl hb465)) rfl
                          · skip
                            replace hb465 := hb465.trans (if_neg (fun q => q c733))
                            refine pm_iconst (v := 0) hC dX12_ruleLine_172 ?_
                            replace hT := hT.trans (pf_val_inr hb465)
                            exact pm_iret hC hR (pm_narZ (by exact ow_68_2)) ⟨0, rfl, ⟨by exact ow_68_3, by exact ow_68_4, by exact ow_68_10, by exact ow_68_41 hm459 hpr559 b566 hpr703 b710⟩, hV711, hF718, hg713, hg714, (fun q => absurd q (by decide)), (fun q => absurd q (by decide)), hT⟩ dX12_ruleLine_173
                        · skip
                          exfalso; exact ow_68_43 c682
                    · skip
                      replace hb465 := hb465.trans (if_neg (fun q => q c589))
                      refine pm_iconst (v := 0) hC dX12_ruleLine_123 ?_
                      replace hT := hT.trans (pf_val_inr hb465)
                      exact pm_iret hC hR (pm_narZ (by exact ow_68_2)) ⟨0, rfl, ⟨by exact ow_68_3, by exact ow_68_4, by exact ow_68_10, by exact ow_68_32 hm459 hpr559 b566⟩, hV567, hF574, hg569, hg570, (fun q => absurd q (by decide)), (fun q => absurd q (by decide)), hT⟩ dX12_ruleLine_124
                refine pm_lvsub [2, 1, 0] (lv' := [(0, (3, 90)), (1, (0, 2)), (2, (0, 1))]) rfl ?_
                exact L466 _ 1 V421 ⟨by decide, by decide⟩ hV423 hF427 e429 e430 hg425 htk442 (by (have e : V421 90 2 = y432 := e433); rw [e]; exact ow_68_44 hpr48 e433 hpr441) hRX (by rw [(show V421 90 33 = y1 from e428), (show V421 90 4 = y438 from e439)]; omega) (by rw [(show V421 90 3 = y435 from e436)]; exact ow_68_45 e436 b447 c449) hT rfl
              · skip
                replace hT := hT.trans (if_neg (fun q => q c449))
                refine pm_iconst (v := 0) hC dX12_ruleLine_104 ?_
                exact pm_iret hC hR (pm_narZ (by exact ow_68_2)) ⟨0, rfl, ⟨by exact ow_68_3, by exact ow_68_4, by exact ow_68_10, by exact ow_68_46 hpr48 hpr441⟩, hV423, hF427, hg425, htk442, (fun q => absurd q (by decide)), (fun q => absurd q (by decide)), hT⟩ dX12_ruleLine_105
            · skip
              exfalso; exact ow_68_49 c419
        · skip
          replace hT := hT.trans (if_neg c63)
          refine pm_iconst (v := 1) hC dX12_ruleLine_49 ?_
          refine pm_goto (tgt := 82) hC dX12_ruleLine_50 (by decide) ?_
          refine pm_istore_n (lv' := [(1, (0, 1)), (0, (3, 90))]) hC dX12_ruleLine_82 (by decide) rfl ?_
          refine pm_iload_n hC 0 dX12_ruleLine_83 rfl ?_
          refine pm_iconst (v := (-1)) hC dX12_ruleLine_84 ?_
          refine pm_icmp_ne (tgt := 90) hC ⟨by decide, by decide⟩ ⟨by decide, by decide⟩ dX12_ruleLine_85 (by decide) (fun c759 => ?_) (fun c759 => ?_)
          · skip
            refine pm_aload_n hC 1 (by decide) dX12_ruleLine_90 rfl ?_
            refine pm_callV (ci := 12) (as := []) (st := []) hC 90 fP_X12_leads lm_X12_148 li_X12_leads (by decide) (by decide) rfl rfl rfl (by decide) rfl rfl (Nat.le_of_ble_eq_true rfl) ⟨Nat.le_refl _, Or.inl rfl⟩ dX12_ruleLine_91 ⟨rfl, hV30, hg32⟩ (fun r760 V761 hp762 => ?_)
            obtain ⟨rfl, hV763, hF764, hg765, hE766⟩ := hp762
            replace hT := hT.trans (pf_call_eq hE766)
            change pm_J X 94 [(1, (0, 1)), (0, (3, 90))] [] 118 V761
            have hF767 := pm_fs.tr hF34 hF764 (by decide) (by decide)
            have e768 : V761 90 33 = y1 := by rw [hF764.2 33 (by decide)]; exact e35
            have e769 : V761 90 1 = y7 := by rw [hF764.2 1 (by decide)]; exact e36
            have e770 : V761 90 32 = y16 := by rw [hF764.2 32 (by decide)]; exact e37
            have hp771 : pm_RLn V761 := (pm_RLn.fr hp38 (hF764.2 32 (by decide)) (hF764.2 33 (by decide)) (hF764.1 107 (by decide) (by decide)))
            obtain ⟨y772, e773⟩ : ∃ y, V761 90 2 = y := ⟨_, rfl⟩
            have b774 := hV763.get 90 2 (lo := 0) (hi := 500) (by decide) (by decide) rfl
            rw [e773] at b774
            replace hT := hT.trans (pf_let_eq e773)
            obtain ⟨y775, e776⟩ : ∃ y, V761 90 3 = y := ⟨_, rfl⟩
            have b777 := hV763.get 90 3 (lo := 0) (hi := 4) (by decide) (by decide) rfl
            rw [e776] at b777
            replace hT := hT.trans (pf_let_eq e776)
            obtain ⟨y778, e779⟩ : ∃ y, V761 90 4 = y := ⟨_, rfl⟩
            have b780 := hV763.get 90 4 (lo := 0) (hi := 500) (by decide) (by decide) rfl
            rw [e779] at b780
            replace hT := hT.trans (pf_let_eq e779)
            have hpr781 := r_leads_pr hV30 hg32 hE766
            have htk782 : pm_tk V761 := hpr781.2.2.2.1
            have hRX := hRX.fr (hF764.1 107 (by decide) (by decide)) (hF764.2 33 (by decide))
            refine pm_aload_n hC 1 (by decide) dX12_ruleLine_94 rfl ?_
            refine pm_ldcwS (tx := "if") (q := 16) hC (by decide) dX12_ruleLine_95 ?_
            change pm_J X 98 [(1, (0, 1)), (0, (3, 90))] [(4, 16), (3, 90)] 118 V761
            refine pm_callV (ci := 12) (as := [(4, 16)]) (st := []) hC 90 (fP_X12_isWord 16 ⟨by decide, by decide⟩) lm_X12_156 li_X12_isWord (by decide) (by decide) rfl rfl rfl (by decide) rfl rfl (Nat.le_of_ble_eq_true rfl) ⟨Nat.le_refl _, Or.inl rfl⟩ dX12_ruleLine_98 ⟨rfl, hV763⟩ (fun r783 V784 hp785 => ?_)
            obtain ⟨y786, rfl, b787, rfl, hE788⟩ := hp785
            replace hT := hT.trans (pf_call_eq hE788)
            change pm_J X 101 [(1, (0, 1)), (0, (3, 90))] [(0, y786)] 118 V761
            refine pm_if_ne (tgt := 106) hC ⟨by exact ow_68_0 b787, by exact ow_68_1 b787⟩ dX12_ruleLine_101 (by decide) (fun c789 => ?_) (fun c789 => ?_)
            · skip
              replace hT := hT.trans (if_pos c789)
              refine pm_iconst (v := 1) hC dX12_ruleLine_106 ?_
              refine pm_istore_n (lv' := [(2, (0, 1)), (1, (0, 1)), (0, (3, 90))]) hC dX12_ruleLine_107 (by decide) rfl ?_
              obtain ⟨B803, hB804, hT⟩ := pf_loop hT
              have L806 : ∀ (N808 : Nat) (x790 : Int) (V792 : pm_M), (0 ≤ x790 ∧ x790 ≤ 1) → pm_oq pm_qP V792 → pm_fs [107, 109] [2, 3, 4, 5, 32, 33, 37, 39] V0 V792 → V792 90 1 = y7 → V792 90 32 = y16 → pm_az V792 → pm_tk V792 → (V0 90 2 ≤ V792 90 2) → (pm_RX V792 0 (V0 90 32)) → (V792 90 33 + 2 ≤ V792 90 4) → (x790 = 1 → V792 90 3 = 1) → F_X12_ruleLine  V0 = pf_val ((0 : Int), V0) B803 (x790, V792) → (Int.toNat (2 * (5 * (500 - V792 90 2) + V792 90 3) + x790)) = N808 → pm_J X 108 [(0, (3, 90)), (1, (0, 1)), (2, (0, x790))] [] 118 V792 := by
                intro N808
                induction N808 using Nat.strongRecOn with
                | _ N808 ih809 =>
                intro x790 V792 b791 hV793 hF794 e795 e796 hp797 hp798 hm799 hx800 hx801 hx802 hT hm807
                have hb805 := congrFun hB804 (x790, V792)
                obtain ⟨y810, e811⟩ : ∃ y, V792 90 2 = y := ⟨_, rfl⟩
                have b812 := hV793.get 90 2 (lo := 0) (hi := 500) (by decide) (by decide) rfl
                rw [e811] at b812
                replace hb805 := hb805.trans (pf_let_eq e811)
                obtain ⟨y813, e814⟩ : ∃ y, V792 90 3 = y := ⟨_, rfl⟩
                have b815 := hV793.get 90 3 (lo := 0) (hi := 4) (by decide) (by decide) rfl
                rw [e814] at b815
                replace hb805 := hb805.trans (pf_let_eq e814)
                obtain ⟨y816, e817⟩ : ∃ y, V792 90 4 = y := ⟨_, rfl⟩
                have b818 := hV793.get 90 4 (lo := 0) (hi := 500) (by decide) (by decide) rfl
                rw [e817] at b818
                replace hb805 := hb805.trans (pf_let_eq e817)
                obtain ⟨y819, e820⟩ : ∃ y, V792 90 33 = y := ⟨_, rfl⟩
                have b821 := hV793.get 90 33 (lo := 0) (hi := 600) (by decide) (by decide) rfl
                rw [e820] at b821
                replace hb805 := hb805.trans (pf_let_eq e820)
                have hRX := hx800
                have hLn := hx801
                have hMo := hx802
                have htk := hp798
                unfold pm_tk at htk
                refine pm_iload_n hC 2 dX12_ruleLine_108 rfl ?_
                refine pm_if_eq (tgt := 191) hC ⟨by exact ow_68_12 b791, by exact ow_68_13 b791⟩ dX12_ruleLine_109 (by decide) (fun c822 => ?_) (fun c822 => ?_)
                · skip
                  replace hb805 := hb805.trans (if_pos c822)
                  refine pm_aload_n hC 0 (by decide) dX12_ruleLine_191 rfl ?_
                  refine pm_bipush (v := 7) hC dX12_ruleLine_192 (by decide) ?_
                  refine pm_iload_n hC 1 dX12_ruleLine_194 rfl ?_
                  have q826 : 0 ≤ V792 90 33 ∧ V792 90 33 ≤ 599 := by (have e : V792 90 33 = y819 := e820); rw [e]; exact ⟨by exact ow_68_14 b821, by exact ow_68_15 hx801 e817 b818 e820⟩
                  refine pm_callV (ci := 12) (as := [(0, 7), (0, 1)]) (st := []) hC 90 (fP_X12_lays 7 1 ⟨by decide, by decide⟩ ⟨by decide, by decide⟩) lm_X12_248 li_X12_lays (by decide) (by decide) rfl rfl rfl (by decide) rfl rfl (Nat.le_of_ble_eq_true rfl) ⟨Nat.le_refl _, Or.inl rfl⟩ dX12_ruleLine_195 ⟨rfl, hV793, q826⟩ (fun r823 V824 hp825 => ?_)
                  obtain ⟨rfl, hV827, hF828, hxp829, hE830⟩ := hp825
                  replace hb805 := hb805.trans (pf_call_eq hE830)
                  change pm_J X 198 [(0, (3, 90)), (1, (0, 1)), (2, (0, x790))] [] 118 V824
                  have hF831 := pm_fs.tr hF794 hF828 (by decide) (by decide)
                  have e832 : V824 90 1 = y7 := by rw [hF828.2 1 (by decide)]; exact e795
                  have e833 : V824 90 32 = y16 := by rw [hF828.2 32 (by decide)]; exact e796
                  have e834 : V824 90 2 = y810 := by rw [hF828.2 2 (by decide)]; exact e811
                  have e835 : V824 90 3 = y813 := by rw [hF828.2 3 (by decide)]; exact e814
                  have e836 : V824 90 4 = y816 := by rw [hF828.2 4 (by decide)]; exact e817
                  have hp837 : pm_az V824 := (pm_az.fr hp797 (hF828.2 1 (by decide)) (hF828.2 2 (by decide)))
                  have hp838 : pm_tk V824 := (pm_tk.fr hp798 (hF828.2 2 (by decide)) (hF828.2 3 (by decide)) (hF828.2 4 (by decide)))
                  obtain ⟨y839, e840⟩ : ∃ y, V824 90 33 = y := ⟨_, rfl⟩
                  have b841 := hV827.get 90 33 (lo := 0) (hi := 600) (by decide) (by decide) rfl
                  rw [e840] at b841
                  replace hb805 := hb805.trans (pf_let_eq e840)
                  have hRX : pm_RX V824 0 (V0 90 32 + 1) := hRX.last (by exact ow_68_16 q826) hE830 (by decide)
                  refine pm_aload_n hC 0 (by decide) dX12_ruleLine_198 rfl ?_
                  refine pm_dup hC rfl dX12_ruleLine_199 ?_
                  refine pm_getf (v := y16) hC 90 fl_X12_271 rfl rfl (by decide) rfl e833 dX12_ruleLine_200 ?_
                  refine pm_iconst (v := 1) hC dX12_ruleLine_203 ?_
                  refine pm_iadd hC dX12_ruleLine_204 ?_
                  refine pm_putf hC 90 fl_X12_271 rfl rfl rfl (by decide) rfl trivial dX12_ruleLine_205 ?_
                  refine pm_aload_n hC 0 (by decide) dX12_ruleLine_208 rfl ?_
                  have hV844 := (hV827.put 90 32 (x := (y16 + 1)) (lo := 0) (hi := 10) rfl ⟨by exact ow_68_17 b18, by (exact ow_68_18 b18 c26)⟩)
                  have hF845 := (hF831.upf 32 (y16 + 1) rfl)
                  obtain ⟨V842, hv843⟩ : ∃ V, V = (pm_up V824 90 32 (y16 + 1)) := ⟨_, rfl⟩
                  rw [← hv843] at hV844 hF845
                  rw [← hv843]
                  replace hb805 := hb805.trans (pf_let_eq hv843.symm)
                  have e846 : V842 90 1 = y7 := by rw [hv843]; exact e832
                  have e847 : V842 90 2 = y810 := by rw [hv843]; exact e834
                  have e848 : V842 90 3 = y813 := by rw [hv843]; exact e835
                  have e849 : V842 90 4 = y816 := by rw [hv843]; exact e836
                  have e850 : V842 90 33 = y839 := by rw [hv843]; exact e840
                  have e851 : V842 90 32 = (y16 + 1) := by rw [hv843]; rfl
                  have hp852 : pm_az V842 := by rw [hv843]; exact (pm_az.fr hp837 rfl rfl)
                  have hp853 : pm_tk V842 := by rw [hv843]; exact (pm_tk.fr hp838 rfl rfl rfl)
                  have hrl854 : pm_RLn V842 := by rw [hv843]; exact pm_RLn.mk hRX (by exact ow_68_19 e17)
                  refine pm_callV (ci := 12) (as := []) (st := []) hC 90 fP_X12_closes lm_X12_183 li_X12_closes (by decide) (by decide) rfl rfl rfl (by decide) rfl rfl (Nat.le_of_ble_eq_true rfl) ⟨Nat.le_refl _, Or.inl rfl⟩ dX12_ruleLine_209 ⟨rfl, hV844, hp852, hp853⟩ (fun r855 V856 hp857 => ?_)
                  obtain ⟨y858, rfl, b859, hV860, hF861, hg862, hg863, hE864⟩ := hp857
                  replace hb805 := hb805.trans (pf_call_eq hE864)
                  change pm_J X 212 [(0, (3, 90)), (1, (0, 1)), (2, (0, x790))] [(0, y858)] 118 V856
                  have hF865 := pm_fs.tr hF845 hF861 (by decide) (by decide)
                  have e866 : V856 90 1 = y7 := by rw [hF861.2 1 (by decide)]; exact e846
                  have e867 : V856 90 33 = y839 := by rw [hF861.2 33 (by decide)]; exact e850
                  have e868 : V856 90 32 = (y16 + 1) := by rw [hF861.2 32 (by decide)]; exact e851
                  have hp869 : pm_RLn V856 := (pm_RLn.fr hrl854 (hF861.2 32 (by decide)) (hF861.2 33 (by decide)) (hF861.1 107 (by decide) (by decide)))
                  obtain ⟨y870, e871⟩ : ∃ y, V856 90 2 = y := ⟨_, rfl⟩
                  have b872 := hV860.get 90 2 (lo := 0) (hi := 500) (by decide) (by decide) rfl
                  rw [e871] at b872
                  replace hb805 := hb805.trans (pf_let_eq e871)
                  obtain ⟨y873, e874⟩ : ∃ y, V856 90 3 = y := ⟨_, rfl⟩
                  have b875 := hV860.get 90 3 (lo := 0) (hi := 4) (by decide) (by decide) rfl
                  rw [e874] at b875
                  replace hb805 := hb805.trans (pf_let_eq e874)
                  obtain ⟨y876, e877⟩ : ∃ y, V856 90 4 = y := ⟨_, rfl⟩
                  have b878 := hV860.get 90 4 (lo := 0) (hi := 500) (by decide) (by decide) rfl
                  rw [e877] at b878
                  replace hb805 := hb805.trans (pf_let_eq e877)
                  replace hT := hT.trans (pf_val_inr hb805)
                  exact pm_iret hC hR (pm_narZ (by exact ow_68_20 b859)) ⟨y858, rfl, ⟨by exact ow_68_21 b859, by exact ow_68_22 b859, by exact ow_68_23 hm799 e811 e847 b859, by exact ow_68_24 hm799 e811 e847 b859⟩, hV860, hF865, hg862, hg863, (fun _ => hp869), (fun _ => by exact ow_68_25 hx801 e817 hxp829 e840 e849 b859 e867), hT⟩ dX12_ruleLine_212
                · skip
                  replace hb805 := hb805.trans (if_neg c822)
                  refine pm_aload_n hC 0 (by decide) dX12_ruleLine_112 rfl ?_
                  refine pm_callV (ci := 12) (as := []) (st := []) hC 90 fP_X12_leads lm_X12_148 li_X12_leads (by decide) (by decide) rfl rfl rfl (by decide) rfl rfl (Nat.le_of_ble_eq_true rfl) ⟨Nat.le_refl _, Or.inl rfl⟩ dX12_ruleLine_113 ⟨rfl, hV793, hp797⟩ (fun r879 V880 hp881 => ?_)
                  obtain ⟨rfl, hV882, hF883, hg884, hE885⟩ := hp881
                  replace hb805 := hb805.trans (pf_call_eq hE885)
                  change pm_J X 116 [(0, (3, 90)), (1, (0, 1)), (2, (0, x790))] [] 118 V880
                  have hF886 := pm_fs.tr hF794 hF883 (by decide) (by decide)
                  have e887 : V880 90 1 = y7 := by rw [hF883.2 1 (by decide)]; exact e795
                  have e888 : V880 90 32 = y16 := by rw [hF883.2 32 (by decide)]; exact e796
                  have e889 : V880 90 33 = y819 := by rw [hF883.2 33 (by decide)]; exact e820
                  obtain ⟨y890, e891⟩ : ∃ y, V880 90 2 = y := ⟨_, rfl⟩
                  have b892 := hV882.get 90 2 (lo := 0) (hi := 500) (by decide) (by decide) rfl
                  rw [e891] at b892
                  replace hb805 := hb805.trans (pf_let_eq e891)
                  obtain ⟨y893, e894⟩ : ∃ y, V880 90 3 = y := ⟨_, rfl⟩
                  have b895 := hV882.get 90 3 (lo := 0) (hi := 4) (by decide) (by decide) rfl
                  rw [e894] at b895
                  replace hb805 := hb805.trans (pf_let_eq e894)
                  obtain ⟨y896, e897⟩ : ∃ y, V880 90 4 = y := ⟨_, rfl⟩
                  have b898 := hV882.get 90 4 (lo := 0) (hi := 500) (by decide) (by decide) rfl
                  rw [e897] at b898
                  replace hb805 := hb805.trans (pf_let_eq e897)
                  have hpr899 := r_leads_pr hV793 hp797 hE885
                  have htk900 : pm_tk V880 := hpr899.2.2.2.1
                  have hRX := hRX.fr (hF883.1 107 (by decide) (by decide)) (hF883.2 33 (by decide))
                  refine pm_aload_n hC 0 (by decide) dX12_ruleLine_116 rfl ?_
                  have hrw901 : pm_rw V880 := ⟨hRX.1, by rw [hRX.2.1]; decide⟩
                  refine pm_callV (ci := 12) (as := []) (st := []) hC 90 fP_X12_sumHere lm_X12_284 li_X12_sumHere (by decide) (by decide) rfl rfl rfl (by decide) rfl rfl (Nat.le_of_ble_eq_true rfl) ⟨Nat.le_refl _, Or.inl rfl⟩ dX12_ruleLine_117 ⟨rfl, hV882, (show V880 90 33 ≤ V880 90 4 by exact ow_68_26 hx801 e814 b815 e820 htk e889 hpr899), hg884, htk900, hrw901⟩ (fun r902 V903 hp904 => ?_)
                  obtain ⟨y905, rfl, b906, hV907, hF908, hg909, hg910, hxp911, hxp912, hE913⟩ := hp904
                  replace hb805 := hb805.trans (pf_call_eq hE913)
                  change pm_J X 120 [(0, (3, 90)), (1, (0, 1)), (2, (0, x790))] [(0, y905)] 118 V903
                  have hF914 := pm_fs.tr hF886 hF908 (by decide) (by decide)
                  have e915 : V903 90 1 = y7 := by rw [hF908.2 1 (by decide)]; exact e887
                  have e916 : V903 90 32 = y16 := by rw [hF908.2 32 (by decide)]; exact e888
                  obtain ⟨y917, e918⟩ : ∃ y, V903 90 2 = y := ⟨_, rfl⟩
                  have b919 := hV907.get 90 2 (lo := 0) (hi := 500) (by decide) (by decide) rfl
                  rw [e918] at b919
                  replace hb805 := hb805.trans (pf_let_eq e918)
                  obtain ⟨y920, e921⟩ : ∃ y, V903 90 3 = y := ⟨_, rfl⟩
                  have b922 := hV907.get 90 3 (lo := 0) (hi := 4) (by decide) (by decide) rfl
                  rw [e921] at b922
                  replace hb805 := hb805.trans (pf_let_eq e921)
                  obtain ⟨y923, e924⟩ : ∃ y, V903 90 4 = y := ⟨_, rfl⟩
                  have b925 := hV907.get 90 4 (lo := 0) (hi := 500) (by decide) (by decide) rfl
                  rw [e924] at b925
                  replace hb805 := hb805.trans (pf_let_eq e924)
                  obtain ⟨y926, e927⟩ : ∃ y, V903 90 33 = y := ⟨_, rfl⟩
                  have b928 := hV907.get 90 33 (lo := 0) (hi := 600) (by decide) (by decide) rfl
                  rw [e927] at b928
                  replace hb805 := hb805.trans (pf_let_eq e927)
                  have htk := hg910
                  unfold pm_tk at htk
                  refine pm_if_ne (tgt := 125) hC ⟨by exact ow_68_27 b906, by exact ow_68_28 b906⟩ dX12_ruleLine_120 (by decide) (fun c929 => ?_) (fun c929 => ?_)
                  · skip
                    replace hb805 := hb805.trans (if_pos c929)
                    have hRX := hRX.sum (h1 := 1) (hxp911 (by exact ow_68_29 b906 c929)) (by decide)
                    have hSl := hxp912 (by exact ow_68_29 b906 c929)
                    refine pm_aload_n hC 0 (by decide) dX12_ruleLine_125 rfl ?_
                    refine pm_bipush (v := 60) hC dX12_ruleLine_126 (by decide) ?_
                    refine pm_callV (ci := 12) (as := [(0, 60)]) (st := []) hC 90 (fP_X12_isSign 60 ⟨by decide, by decide⟩) lm_X12_145 li_X12_isSign (by decide) (by decide) rfl rfl rfl (by decide) rfl rfl (Nat.le_of_ble_eq_true rfl) ⟨Nat.le_refl _, Or.inl rfl⟩ dX12_ruleLine_128 ⟨rfl, hV907⟩ (fun r930 V931 hp932 => ?_)
                    obtain ⟨y933, rfl, b934, rfl, hE935⟩ := hp932
                    replace hb805 := hb805.trans (pf_call_eq hE935)
                    change pm_J X 131 [(0, (3, 90)), (1, (0, 1)), (2, (0, x790))] [(0, y933)] 118 V903
                    refine pm_if_eq (tgt := 138) hC ⟨by exact ow_68_30 b934, by exact ow_68_31 b934⟩ dX12_ruleLine_131 (by decide) (fun c936 => ?_) (fun c936 => ?_)
                    · skip
                      replace hb805 := hb805.trans (if_pos c936)
                      refine pm_aload_n hC 0 (by decide) dX12_ruleLine_138 rfl ?_
                      refine pm_bipush (v := 61) hC dX12_ruleLine_139 (by decide) ?_
                      refine pm_callV (ci := 12) (as := [(0, 61)]) (st := []) hC 90 (fP_X12_isSign 61 ⟨by decide, by decide⟩) lm_X12_145 li_X12_isSign (by decide) (by decide) rfl rfl rfl (by decide) rfl rfl (Nat.le_of_ble_eq_true rfl) ⟨Nat.le_refl _, Or.inl rfl⟩ dX12_ruleLine_141 ⟨rfl, hV907⟩ (fun r937 V938 hp939 => ?_)
                      obtain ⟨y940, rfl, b941, rfl, hE942⟩ := hp939
                      replace hb805 := hb805.trans (pf_call_eq hE942)
                      change pm_J X 144 [(0, (3, 90)), (1, (0, 1)), (2, (0, x790))] [(0, y940)] 118 V903
                      refine pm_if_eq (tgt := 152) hC ⟨by exact ow_68_30 b941, by exact ow_68_31 b941⟩ dX12_ruleLine_144 (by decide) (fun c943 => ?_) (fun c943 => ?_)
                      · skip
                        replace hb805 := hb805.trans (if_pos c943)
                        refine pm_iconst (v := (-1)) hC dX12_ruleLine_152 ?_
                        refine pm_istore_n (lv' := [(3, (0, (-1))), (0, (3, 90)), (1, (0, 1)), (2, (0, x790))]) hC dX12_ruleLine_153 (by decide) rfl ?_
                        refine pm_iload_n hC 0 dX12_ruleLine_154 rfl ?_
                        refine pm_iconst (v := (-1)) hC dX12_ruleLine_155 ?_
                        refine pm_icmp_ne (tgt := 161) hC ⟨by decide, by decide⟩ ⟨by decide, by decide⟩ dX12_ruleLine_156 (by decide) (fun c944 => ?_) (fun c944 => ?_)
                        · skip
                          exfalso; exact ow_68_9 c944
                        · skip
                          refine pm_iconst (v := 0) hC dX12_ruleLine_159 ?_
                          replace hT := hT.trans (pf_val_inr hb805)
                          exact pm_iret hC hR (pm_narZ (by exact ow_68_2)) ⟨0, rfl, ⟨by exact ow_68_3, by exact ow_68_4, by exact ow_68_10, by exact ow_68_32 hm799 hpr899 b906⟩, hV907, hF914, hg909, hg910, (fun q => absurd q (by decide)), (fun q => absurd q (by decide)), hT⟩ dX12_ruleLine_160
                      · skip
                        replace hb805 := hb805.trans (if_neg c943)
                        refine pm_bipush (v := 6) hC dX12_ruleLine_147 (by decide) ?_
                        refine pm_goto (tgt := 153) hC dX12_ruleLine_149 (by decide) ?_
                        refine pm_istore_n (lv' := [(3, (0, 6)), (0, (3, 90)), (1, (0, 1)), (2, (0, x790))]) hC dX12_ruleLine_153 (by decide) rfl ?_
                        refine pm_iload_n hC 0 dX12_ruleLine_154 rfl ?_
                        refine pm_iconst (v := (-1)) hC dX12_ruleLine_155 ?_
                        refine pm_icmp_ne (tgt := 161) hC ⟨by decide, by decide⟩ ⟨by decide, by decide⟩ dX12_ruleLine_156 (by decide) (fun c945 => ?_) (fun c945 => ?_)
                        · skip
                          refine pm_aload_n hC 1 (by decide) dX12_ruleLine_161 rfl ?_
                          refine pm_callV (ci := 12) (as := []) (st := []) hC 90 fP_X12_leads lm_X12_148 li_X12_leads (by decide) (by decide) rfl rfl rfl (by decide) rfl rfl (Nat.le_of_ble_eq_true rfl) ⟨Nat.le_refl _, Or.inl rfl⟩ dX12_ruleLine_162 ⟨rfl, hV907, hg909⟩ (fun r946 V947 hp948 => ?_)
                          obtain ⟨rfl, hV949, hF950, hg951, hE952⟩ := hp948
                          replace hb805 := hb805.trans (pf_call_eq hE952)
                          change pm_J X 165 [(3, (0, 6)), (0, (3, 90)), (1, (0, 1)), (2, (0, x790))] [] 118 V947
                          have hF953 := pm_fs.tr hF914 hF950 (by decide) (by decide)
                          have e954 : V947 90 1 = y7 := by rw [hF950.2 1 (by decide)]; exact e915
                          have e955 : V947 90 32 = y16 := by rw [hF950.2 32 (by decide)]; exact e916
                          have e956 : V947 90 33 = y926 := by rw [hF950.2 33 (by decide)]; exact e927
                          obtain ⟨y957, e958⟩ : ∃ y, V947 90 2 = y := ⟨_, rfl⟩
                          have b959 := hV949.get 90 2 (lo := 0) (hi := 500) (by decide) (by decide) rfl
                          rw [e958] at b959
                          replace hb805 := hb805.trans (pf_let_eq e958)
                          obtain ⟨y960, e961⟩ : ∃ y, V947 90 3 = y := ⟨_, rfl⟩
                          have b962 := hV949.get 90 3 (lo := 0) (hi := 4) (by decide) (by decide) rfl
                          rw [e961] at b962
                          replace hb805 := hb805.trans (pf_let_eq e961)
                          obtain ⟨y963, e964⟩ : ∃ y, V947 90 4 = y := ⟨_, rfl⟩
                          have b965 := hV949.get 90 4 (lo := 0) (hi := 500) (by decide) (by decide) rfl
                          rw [e964] at b965
                          replace hb805 := hb805.trans (pf_let_eq e964)
                          have hpr966 := r_leads_pr hV907 hg909 hE952
                          have htk967 : pm_tk V947 := hpr966.2.2.2.1
                          have hRX := hRX.fr (hF950.1 107 (by decide) (by decide)) (hF950.2 33 (by decide))
                          refine pm_aload_n hC 1 (by decide) dX12_ruleLine_165 rfl ?_
                          have hrw968 : pm_rw V947 := ⟨hRX.1, by rw [hRX.2.1]; decide⟩
                          refine pm_callV (ci := 12) (as := []) (st := []) hC 90 fP_X12_sumHere lm_X12_284 li_X12_sumHere (by decide) (by decide) rfl rfl rfl (by decide) rfl rfl (Nat.le_of_ble_eq_true rfl) ⟨Nat.le_refl _, Or.inl rfl⟩ dX12_ruleLine_166 ⟨rfl, hV949, (show V947 90 33 ≤ V947 90 4 by (exact ow_68_33 hx801 e814 b815 e820 ‹V792 90 3 ≤ 4 * (V792 90 2 - V792 90 4)› e889 hpr899 e921 b922 e927 htk hSl e956 hpr966)), hg951, htk967, hrw968⟩ (fun r969 V970 hp971 => ?_)
                          obtain ⟨y972, rfl, b973, hV974, hF975, hg976, hg977, hxp978, hxp979, hE980⟩ := hp971
                          replace hb805 := hb805.trans (pf_call_eq hE980)
                          change pm_J X 169 [(3, (0, 6)), (0, (3, 90)), (1, (0, 1)), (2, (0, x790))] [(0, y972)] 118 V970
                          have hF981 := pm_fs.tr hF953 hF975 (by decide) (by decide)
                          have e982 : V970 90 1 = y7 := by rw [hF975.2 1 (by decide)]; exact e954
                          have e983 : V970 90 32 = y16 := by rw [hF975.2 32 (by decide)]; exact e955
                          obtain ⟨y984, e985⟩ : ∃ y, V970 90 2 = y := ⟨_, rfl⟩
                          have b986 := hV974.get 90 2 (lo := 0) (hi := 500) (by decide) (by decide) rfl
                          rw [e985] at b986
                          replace hb805 := hb805.trans (pf_let_eq e985)
                          obtain ⟨y987, e988⟩ : ∃ y, V970 90 3 = y := ⟨_, rfl⟩
                          have b989 := hV974.get 90 3 (lo := 0) (hi := 4) (by decide) (by decide) rfl
                          rw [e988] at b989
                          replace hb805 := hb805.trans (pf_let_eq e988)
                          obtain ⟨y990, e991⟩ : ∃ y, V970 90 4 = y := ⟨_, rfl⟩
                          have b992 := hV974.get 90 4 (lo := 0) (hi := 500) (by decide) (by decide) rfl
                          rw [e991] at b992
                          replace hb805 := hb805.trans (pf_let_eq e991)
                          obtain ⟨y993, e994⟩ : ∃ y, V970 90 33 = y := ⟨_, rfl⟩
                          have b995 := hV974.get 90 33 (lo := 0) (hi := 600) (by decide) (by decide) rfl
                          rw [e994] at b995
                          replace hb805 := hb805.trans (pf_let_eq e994)
                          have htk := hg977
                          unfold pm_tk at htk
                          refine pm_if_ne (tgt := 174) hC ⟨by exact ow_68_27 b973, by exact ow_68_28 b973⟩ dX12_ruleLine_169 (by decide) (fun c996 => ?_) (fun c996 => ?_)
                          · skip
                            replace hb805 := hb805.trans (if_pos c996)
                            have hRX := hRX.sum (h1 := 2) (hxp978 (by exact ow_68_29 b973 c996)) (by decide)
                            have hSl := hxp979 (by exact ow_68_29 b973 c996)
                            refine pm_aload_n hC 1 (by decide) dX12_ruleLine_174 rfl ?_
                            refine pm_iload_n hC 0 dX12_ruleLine_175 rfl ?_
                            refine pm_iconst (v := 0) hC dX12_ruleLine_176 ?_
                            have q1000 : 0 ≤ V970 90 33 ∧ V970 90 33 ≤ 599 := by (have e : V970 90 33 = y993 := e994); rw [e]; exact ⟨by exact ow_68_14 b995, by (clear hmp0 e2 b3 e5 b6 e8 b9 e11 b12 e14 b15 e17 b18 hsz b23 c25 c26 e35 e36 e37 e40 b41 e43 b44 e46 b47 hpr48 b54 c56 b61 c63 c759 e768 e769 e770 e773 b774 e776 b777 e779 b780 hpr781 b787 c789 b791 e795 e796 hm799 hx802 hm807 b812 b818 b821 hLn hMo c822 e887 e888 e891 b892 e894 b895 b898 b906 hxp911 hxp912 e915 e916 b919 b925 b928 c929 b934 c936 b941 c943 c945 e954 e955 e958 b959 e961 b962 b965 b973 hxp978 hxp979 e982 e983 e985 b986 e988 b989 htk c996 e; exact ow_68_34 hx801 e814 b815 e820 ‹V792 90 3 ≤ 4 * (V792 90 2 - V792 90 4)› e889 hpr899 e921 b922 e927 htk ‹V903 90 33 + V880 90 4 ≤ V903 90 4 + V880 90 33› e956 hpr966 e991 b992 e994 hSl)⟩
                            refine pm_callV (ci := 12) (as := [(0, 6), (0, 0)]) (st := []) hC 90 (fP_X12_lays 6 0 ⟨by decide, by decide⟩ ⟨by decide, by decide⟩) lm_X12_248 li_X12_lays (by decide) (by decide) rfl rfl rfl (by decide) rfl rfl (Nat.le_of_ble_eq_true rfl) ⟨Nat.le_refl _, Or.inl rfl⟩ dX12_ruleLine_177 ⟨rfl, hV974, q1000⟩ (fun r997 V998 hp999 => ?_)
                            obtain ⟨rfl, hV1001, hF1002, hxp1003, hE1004⟩ := hp999
                            replace hb805 := hb805.trans (pf_call_eq hE1004)
                            change pm_J X 180 [(3, (0, 6)), (0, (3, 90)), (1, (0, 1)), (2, (0, x790))] [] 118 V998
                            have hF1005 := pm_fs.tr hF981 hF1002 (by decide) (by decide)
                            have e1006 : V998 90 1 = y7 := by rw [hF1002.2 1 (by decide)]; exact e982
                            have e1007 : V998 90 32 = y16 := by rw [hF1002.2 32 (by decide)]; exact e983
                            have e1008 : V998 90 2 = y984 := by rw [hF1002.2 2 (by decide)]; exact e985
                            have e1009 : V998 90 3 = y987 := by rw [hF1002.2 3 (by decide)]; exact e988
                            have e1010 : V998 90 4 = y990 := by rw [hF1002.2 4 (by decide)]; exact e991
                            have hp1011 : pm_az V998 := (pm_az.fr hg976 (hF1002.2 1 (by decide)) (hF1002.2 2 (by decide)))
                            have hp1012 : pm_tk V998 := (pm_tk.fr hg977 (hF1002.2 2 (by decide)) (hF1002.2 3 (by decide)) (hF1002.2 4 (by decide)))
                            obtain ⟨y1013, e1014⟩ : ∃ y, V998 90 33 = y := ⟨_, rfl⟩
                            have b1015 := hV1001.get 90 33 (lo := 0) (hi := 600) (by decide) (by decide) rfl
                            rw [e1014] at b1015
                            replace hb805 := hb805.trans (pf_let_eq e1014)
                            have hRX : pm_RX V998 0 (V0 90 32) := hRX.lay (by exact ow_68_16 q1000) hE1004 (by decide) (Or.inr rfl)
                            refine pm_aload_n hC 1 (by decide) dX12_ruleLine_180 rfl ?_
                            refine pm_ldcwS (tx := "and") (q := 17) hC (by decide) dX12_ruleLine_181 ?_
                            change pm_J X 184 [(3, (0, 6)), (0, (3, 90)), (1, (0, 1)), (2, (0, x790))] [(4, 17), (3, 90)] 118 V998
                            refine pm_callV (ci := 12) (as := [(4, 17)]) (st := []) hC 90 (fP_X12_isWord 17 ⟨by decide, by decide⟩) lm_X12_156 li_X12_isWord (by decide) (by decide) rfl rfl rfl (by decide) rfl rfl (Nat.le_of_ble_eq_true rfl) ⟨Nat.le_refl _, Or.inl rfl⟩ dX12_ruleLine_184 ⟨rfl, hV1001⟩ (fun r1016 V1017 hp1018 => ?_)
                            obtain ⟨y1019, rfl, b1020, rfl, hE1021⟩ := hp1018
                            replace hb805 := hb805.trans (pf_call_eq hE1021)
                            change pm_J X 187 [(3, (0, 6)), (0, (3, 90)), (1, (0, 1)), (2, (0, x790))] [(0, y1019)] 118 V998
                            refine pm_istore_n (lv' := [(2, (0, y1019)), (3, (0, 6)), (0, (3, 90)), (1, (0, 1))]) hC dX12_ruleLine_187 (by decide) rfl ?_
                            refine pm_goto (tgt := 108) hC dX12_ruleLine_188 (by decide) ?_
                            refine pm_lvsub [2, 3, 0] (lv' := [(0, (3, 90)), (1, (0, 1)), (2, (0, y1019))]) rfl ?_
                            exact ih809 _ (by (exact ow_68_50 b791 hm807 hMo c822 e894 b895 e897 b898 hpr899 b906 hpr966 b973 e985 e988 c996 e1008 e1009 b1020)) y1019 V998 ⟨by exact ow_68_36 b1020, by exact ow_68_37 b1020⟩ hV1001 hF1005 e1006 e1007 hp1011 hp1012 (by (have e : V998 90 2 = y984 := e1008); rw [e]; exact ow_68_38 hm799 hpr899 b906 hpr966 b973 e985) hRX (by rw [(show V998 90 33 = y1013 from e1014), (show V998 90 4 = y990 from e1010)]; (clear hmp0 e2 b3 e5 b6 e8 b9 e11 b12 e14 b15 e17 b18 hsz b23 c25 c26 e35 e36 e37 e40 b41 e43 b44 e46 b47 hpr48 b54 c56 b61 c63 c759 e768 e769 e770 e773 b774 e776 b777 e779 b780 hpr781 b787 c789 b791 e795 e796 hm799 hx802 hm807 b812 b818 b821 hLn hMo c822 e887 e888 e891 b892 e894 b895 b898 b906 hxp911 hxp912 e915 e916 b919 b922 b925 b928 c929 b934 c936 e954 e955 e958 b959 e961 b962 b965 e982 e983 e985 b986 e988 b989 b992 b995 htk q1000 e1006 e1007 e1008 e1009 b1015; exact ow_68_39 hx801 e814 b815 e820 ‹V792 90 3 ≤ 4 * (V792 90 2 - V792 90 4)› e889 hpr899 e927 htk ‹V903 90 33 + V880 90 4 ≤ V903 90 4 + V880 90 33› b941 c943 e956 hpr966 e991 hSl hxp1003 e1014)) (by rw [(show V998 90 3 = y987 from e1009)]; exact ow_68_40 e1009 b1020) (hT.trans (pf_val_inl hb805)) rfl
                          · skip
                            replace hb805 := hb805.trans (if_neg (fun q => q c996))
                            refine pm_iconst (v := 0) hC dX12_ruleLine_172 ?_
                            replace hT := hT.trans (pf_val_inr hb805)
                            exact pm_iret hC hR (pm_narZ (by exact ow_68_2)) ⟨0, rfl, ⟨by exact ow_68_3, by exact ow_68_4, by exact ow_68_10, by exact ow_68_41 hm799 hpr899 b906 hpr966 b973⟩, hV974, hF981, hg976, hg977, (fun q => absurd q (by decide)), (fun q => absurd q (by decide)), hT⟩ dX12_ruleLine_173
                        · skip
                          exfalso; exact ow_68_42 c945
                    · skip
                      replace hb805 := hb805.trans (if_neg c936)
                      refine pm_iconst (v := 5) hC dX12_ruleLine_134 ?_
                      refine pm_goto (tgt := 153) hC dX12_ruleLine_135 (by decide) ?_
                      refine pm_istore_n (lv' := [(3, (0, 5)), (0, (3, 90)), (1, (0, 1)), (2, (0, x790))]) hC dX12_ruleLine_153 (by decide) rfl ?_
                      refine pm_iload_n hC 0 dX12_ruleLine_154 rfl ?_
                      refine pm_iconst (v := (-1)) hC dX12_ruleLine_155 ?_
                      refine pm_icmp_ne (tgt := 161) hC ⟨by decide, by decide⟩ ⟨by decide, by decide⟩ dX12_ruleLine_156 (by decide) (fun c1022 => ?_) (fun c1022 => ?_)
                      · skip
                        refine pm_aload_n hC 1 (by decide) dX12_ruleLine_161 rfl ?_
                        refine pm_callV (ci := 12) (as := []) (st := []) hC 90 fP_X12_leads lm_X12_148 li_X12_leads (by decide) (by decide) rfl rfl rfl (by decide) rfl rfl (Nat.le_of_ble_eq_true rfl) ⟨Nat.le_refl _, Or.inl rfl⟩ dX12_ruleLine_162 ⟨rfl, hV907, hg909⟩ (fun r1023 V1024 hp1025 => ?_)
                        obtain ⟨rfl, hV1026, hF1027, hg1028, hE1029⟩ := hp1025
                        replace hb805 := hb805.trans (pf_call_eq hE1029)
                        change pm_J X 165 [(3, (0, 5)), (0, (3, 90)), (1, (0, 1)), (2, (0, x790))] [] 118 V1024
                        have hF1030 := pm_fs.tr hF914 hF1027 (by decide) (by decide)
                        have e1031 : V1024 90 1 = y7 := by rw [hF1027.2 1 (by decide)]; exact e915
                        have e1032 : V1024 90 32 = y16 := by rw [hF1027.2 32 (by decide)]; exact e916
                        have e1033 : V1024 90 33 = y926 := by rw [hF1027.2 33 (by decide)]; exact e927
                        obtain ⟨y1034, e1035⟩ : ∃ y, V1024 90 2 = y := ⟨_, rfl⟩
                        have b1036 := hV1026.get 90 2 (lo := 0) (hi := 500) (by decide) (by decide) rfl
                        rw [e1035] at b1036
                        replace hb805 := hb805.trans (pf_let_eq e1035)
                        obtain ⟨y1037, e1038⟩ : ∃ y, V1024 90 3 = y := ⟨_, rfl⟩
                        have b1039 := hV1026.get 90 3 (lo := 0) (hi := 4) (by decide) (by decide) rfl
                        rw [e1038] at b1039
                        replace hb805 := hb805.trans (pf_let_eq e1038)
                        obtain ⟨y1040, e1041⟩ : ∃ y, V1024 90 4 = y := ⟨_, rfl⟩
                        have b1042 := hV1026.get 90 4 (lo := 0) (hi := 500) (by decide) (by decide) rfl
                        rw [e1041] at b1042
                        replace hb805 := hb805.trans (pf_let_eq e1041)
                        have hpr1043 := r_leads_pr hV907 hg909 hE1029
                        have htk1044 : pm_tk V1024 := hpr1043.2.2.2.1
                        have hRX := hRX.fr (hF1027.1 107 (by decide) (by decide)) (hF1027.2 33 (by decide))
                        refine pm_aload_n hC 1 (by decide) dX12_ruleLine_165 rfl ?_
                        have hrw1045 : pm_rw V1024 := ⟨hRX.1, by rw [hRX.2.1]; decide⟩
                        refine pm_callV (ci := 12) (as := []) (st := []) hC 90 fP_X12_sumHere lm_X12_284 li_X12_sumHere (by decide) (by decide) rfl rfl rfl (by decide) rfl rfl (Nat.le_of_ble_eq_true rfl) ⟨Nat.le_refl _, Or.inl rfl⟩ dX12_ruleLine_166 ⟨rfl, hV1026, (show V1024 90 33 ≤ V1024 90 4 by exact ow_68_33 hx801 e814 b815 e820 ‹V792 90 3 ≤ 4 * (V792 90 2 - V792 90 4)› e889 hpr899 e921 b922 e927 htk hSl e1033 hpr1043), hg1028, htk1044, hrw1045⟩ (fun r1046 V1047 hp1048 => ?_)
                        obtain ⟨y1049, rfl, b1050, hV1051, hF1052, hg1053, hg1054, hxp1055, hxp1056, hE1057⟩ := hp1048
                        replace hb805 := hb805.trans (pf_call_eq hE1057)
                        change pm_J X 169 [(3, (0, 5)), (0, (3, 90)), (1, (0, 1)), (2, (0, x790))] [(0, y1049)] 118 V1047
                        have hF1058 := pm_fs.tr hF1030 hF1052 (by decide) (by decide)
                        have e1059 : V1047 90 1 = y7 := by rw [hF1052.2 1 (by decide)]; exact e1031
                        have e1060 : V1047 90 32 = y16 := by rw [hF1052.2 32 (by decide)]; exact e1032
                        obtain ⟨y1061, e1062⟩ : ∃ y, V1047 90 2 = y := ⟨_, rfl⟩
                        have b1063 := hV1051.get 90 2 (lo := 0) (hi := 500) (by decide) (by decide) rfl
                        rw [e1062] at b1063
                        replace hb805 := hb805.trans (pf_let_eq e1062)
                        obtain ⟨y1064, e1065⟩ : ∃ y, V1047 90 3 = y := ⟨_, rfl⟩
                        have b1066 := hV1051.get 90 3 (lo := 0) (hi := 4) (by decide) (by decide) rfl
                        rw [e1065] at b1066
                        replace hb805 := hb805.trans (pf_let_eq e1065)
                        obtain ⟨y1067, e1068⟩ : ∃ y, V1047 90 4 = y := ⟨_, rfl⟩
                        have b1069 := hV1051.get 90 4 (lo := 0) (hi := 500) (by decide) (by decide) rfl
                        rw [e1068] at b1069
                        replace hb805 := hb805.trans (pf_let_eq e1068)
                        obtain ⟨y1070, e1071⟩ : ∃ y, V1047 90 33 = y := ⟨_, rfl⟩
                        have b1072 := hV1051.get 90 33 (lo := 0) (hi := 600) (by decide) (by decide) rfl
                        rw [e1071] at b1072
                        replace hb805 := hb805.trans (pf_let_eq e1071)
                        have htk := hg1054
                        unfold pm_tk at htk
                        refine pm_if_ne (tgt := 174) hC ⟨by exact ow_68_27 b1050, by exact ow_68_28 b1050⟩ dX12_ruleLine_169 (by decide) (fun c1073 => ?_) (fun c1073 => ?_)
                        · skip
                          replace hb805 := hb805.trans (if_pos c1073)
                          have hRX := hRX.sum (h1 := 2) (hxp1055 (by exact ow_68_29 b1050 c1073)) (by decide)
                          have hSl := hxp1056 (by exact ow_68_29 b1050 c1073)
                          refine pm_aload_n hC 1 (by decide) dX12_ruleLine_174 rfl ?_
                          refine pm_iload_n hC 0 dX12_ruleLine_175 rfl ?_
                          refine pm_iconst (v := 0) hC dX12_ruleLine_176 ?_
                          have q1077 : 0 ≤ V1047 90 33 ∧ V1047 90 33 ≤ 599 := by (have e : V1047 90 33 = y1070 := e1071); rw [e]; exact ⟨by exact ow_68_14 b1072, by (clear hmp0 e2 b3 e5 b6 e8 b9 e11 b12 e14 b15 e17 b18 hsz b23 c25 c26 e35 e36 e37 e40 b41 e43 b44 e46 b47 hpr48 b54 c56 b61 c63 c759 e768 e769 e770 e773 b774 e776 b777 e779 b780 hpr781 b787 c789 b791 e795 e796 hm799 hx802 hm807 b812 b818 b821 hLn hMo c822 e887 e888 e891 b892 e894 b895 b898 b906 hxp911 hxp912 e915 e916 b919 b925 b928 c929 b934 c936 c1022 e1031 e1032 e1035 b1036 e1038 b1039 b1042 b1050 hxp1055 hxp1056 e1059 e1060 e1062 b1063 e1065 b1066 htk c1073 e; exact ow_68_34 hx801 e814 b815 e820 ‹V792 90 3 ≤ 4 * (V792 90 2 - V792 90 4)› e889 hpr899 e921 b922 e927 htk ‹V903 90 33 + V880 90 4 ≤ V903 90 4 + V880 90 33› e1033 hpr1043 e1068 b1069 e1071 hSl)⟩
                          refine pm_callV (ci := 12) (as := [(0, 5), (0, 0)]) (st := []) hC 90 (fP_X12_lays 5 0 ⟨by decide, by decide⟩ ⟨by decide, by decide⟩) lm_X12_248 li_X12_lays (by decide) (by decide) rfl rfl rfl (by decide) rfl rfl (Nat.le_of_ble_eq_true rfl) ⟨Nat.le_refl _, Or.inl rfl⟩ dX12_ruleLine_177 ⟨rfl, hV1051, q1077⟩ (fun r1074 V1075 hp1076 => ?_)
                          obtain ⟨rfl, hV1078, hF1079, hxp1080, hE1081⟩ := hp1076
                          replace hb805 := hb805.trans (pf_call_eq hE1081)
                          change pm_J X 180 [(3, (0, 5)), (0, (3, 90)), (1, (0, 1)), (2, (0, x790))] [] 118 V1075
                          have hF1082 := pm_fs.tr hF1058 hF1079 (by decide) (by decide)
                          have e1083 : V1075 90 1 = y7 := by rw [hF1079.2 1 (by decide)]; exact e1059
                          have e1084 : V1075 90 32 = y16 := by rw [hF1079.2 32 (by decide)]; exact e1060
                          have e1085 : V1075 90 2 = y1061 := by rw [hF1079.2 2 (by decide)]; exact e1062
                          have e1086 : V1075 90 3 = y1064 := by rw [hF1079.2 3 (by decide)]; exact e1065
                          have e1087 : V1075 90 4 = y1067 := by rw [hF1079.2 4 (by decide)]; exact e1068
                          have hp1088 : pm_az V1075 := (pm_az.fr hg1053 (hF1079.2 1 (by decide)) (hF1079.2 2 (by decide)))
                          have hp1089 : pm_tk V1075 := (pm_tk.fr hg1054 (hF1079.2 2 (by decide)) (hF1079.2 3 (by decide)) (hF1079.2 4 (by decide)))
                          obtain ⟨y1090, e1091⟩ : ∃ y, V1075 90 33 = y := ⟨_, rfl⟩
                          have b1092 := hV1078.get 90 33 (lo := 0) (hi := 600) (by decide) (by decide) rfl
                          rw [e1091] at b1092
                          replace hb805 := hb805.trans (pf_let_eq e1091)
                          have hRX : pm_RX V1075 0 (V0 90 32) := hRX.lay (by exact ow_68_16 q1077) hE1081 (by decide) (Or.inl rfl)
                          refine pm_aload_n hC 1 (by decide) dX12_ruleLine_180 rfl ?_
                          refine pm_ldcwS (tx := "and") (q := 17) hC (by decide) dX12_ruleLine_181 ?_
                          change pm_J X 184 [(3, (0, 5)), (0, (3, 90)), (1, (0, 1)), (2, (0, x790))] [(4, 17), (3, 90)] 118 V1075
                          refine pm_callV (ci := 12) (as := [(4, 17)]) (st := []) hC 90 (fP_X12_isWord 17 ⟨by decide, by decide⟩) lm_X12_156 li_X12_isWord (by decide) (by decide) rfl rfl rfl (by decide) rfl rfl (Nat.le_of_ble_eq_true rfl) ⟨Nat.le_refl _, Or.inl rfl⟩ dX12_ruleLine_184 ⟨rfl, hV1078⟩ (fun r1093 V1094 hp1095 => ?_)
                          obtain ⟨y1096, rfl, b1097, rfl, hE1098⟩ := hp1095
                          replace hb805 := hb805.trans (pf_call_eq hE1098)
                          change pm_J X 187 [(3, (0, 5)), (0, (3, 90)), (1, (0, 1)), (2, (0, x790))] [(0, y1096)] 118 V1075
                          refine pm_istore_n (lv' := [(2, (0, y1096)), (3, (0, 5)), (0, (3, 90)), (1, (0, 1))]) hC dX12_ruleLine_187 (by decide) rfl ?_
                          refine pm_goto (tgt := 108) hC dX12_ruleLine_188 (by decide) ?_
                          refine pm_lvsub [2, 3, 0] (lv' := [(0, (3, 90)), (1, (0, 1)), (2, (0, y1096))]) rfl ?_
                          exact ih809 _ (by (exact ow_68_50 b791 hm807 hMo c822 e894 b895 e897 b898 hpr899 b906 hpr1043 b1050 e1062 e1065 c1073 e1085 e1086 b1097)) y1096 V1075 ⟨by exact ow_68_36 b1097, by exact ow_68_37 b1097⟩ hV1078 hF1082 e1083 e1084 hp1088 hp1089 (by (have e : V1075 90 2 = y1061 := e1085); rw [e]; exact ow_68_38 hm799 hpr899 b906 hpr1043 b1050 e1062) hRX (by rw [(show V1075 90 33 = y1090 from e1091), (show V1075 90 4 = y1067 from e1087)]; (clear hmp0 e2 b3 e5 b6 e8 b9 e11 b12 e14 b15 e17 b18 hsz b23 c25 c26 e35 e36 e37 e40 b41 e43 b44 e46 b47 hpr48 b54 c56 b61 c63 c759 e768 e769 e770 e773 b774 e776 b777 e779 b780 hpr781 b787 c789 b791 e795 e796 hm799 hx802 hm807 b812 b818 b821 hLn hMo c822 e887 e888 e891 b892 e894 b895 b898 b906 hxp911 hxp912 e915 e916 b919 b922 b925 b928 c929 e1031 e1032 e1035 b1036 e1038 b1039 b1042 e1059 e1060 e1062 b1063 e1065 b1066 b1069 b1072 htk q1077 e1083 e1084 e1085 e1086 b1092; exact ow_68_39 hx801 e814 b815 e820 ‹V792 90 3 ≤ 4 * (V792 90 2 - V792 90 4)› e889 hpr899 e927 htk ‹V903 90 33 + V880 90 4 ≤ V903 90 4 + V880 90 33› b934 c936 e1033 hpr1043 e1068 hSl hxp1080 e1091)) (by rw [(show V1075 90 3 = y1064 from e1086)]; exact ow_68_40 e1086 b1097) (hT.trans (pf_val_inl hb805)) rfl
                        · skip
                          replace hb805 := hb805.trans (if_neg (fun q => q c1073))
                          refine pm_iconst (v := 0) hC dX12_ruleLine_172 ?_
                          replace hT := hT.trans (pf_val_inr hb805)
                          exact pm_iret hC hR (pm_narZ (by exact ow_68_2)) ⟨0, rfl, ⟨by exact ow_68_3, by exact ow_68_4, by exact ow_68_10, by exact ow_68_41 hm799 hpr899 b906 hpr1043 b1050⟩, hV1051, hF1058, hg1053, hg1054, (fun q => absurd q (by decide)), (fun q => absurd q (by decide)), hT⟩ dX12_ruleLine_173
                      · skip
                        exfalso; exact ow_68_43 c1022
                  · skip
                    replace hb805 := hb805.trans (if_neg (fun q => q c929))
                    refine pm_iconst (v := 0) hC dX12_ruleLine_123 ?_
                    replace hT := hT.trans (pf_val_inr hb805)
                    exact pm_iret hC hR (pm_narZ (by exact ow_68_2)) ⟨0, rfl, ⟨by exact ow_68_3, by exact ow_68_4, by exact ow_68_10, by exact ow_68_32 hm799 hpr899 b906⟩, hV907, hF914, hg909, hg910, (fun q => absurd q (by decide)), (fun q => absurd q (by decide)), hT⟩ dX12_ruleLine_124
              refine pm_lvsub [2, 1, 0] (lv' := [(0, (3, 90)), (1, (0, 1)), (2, (0, 1))]) rfl ?_
              exact L806 _ 1 V761 ⟨by decide, by decide⟩ hV763 hF767 e769 e770 hg765 htk782 (by (have e : V761 90 2 = y772 := e773); rw [e]; exact ow_68_44 hpr48 e773 hpr781) hRX (by rw [(show V761 90 33 = y1 from e768), (show V761 90 4 = y778 from e779)]; omega) (by rw [(show V761 90 3 = y775 from e776)]; exact ow_68_45 e776 b787 c789) hT rfl
            · skip
              replace hT := hT.trans (if_neg (fun q => q c789))
              refine pm_iconst (v := 0) hC dX12_ruleLine_104 ?_
              exact pm_iret hC hR (pm_narZ (by exact ow_68_2)) ⟨0, rfl, ⟨by exact ow_68_3, by exact ow_68_4, by exact ow_68_10, by exact ow_68_46 hpr48 hpr781⟩, hV763, hF767, hg765, htk782, (fun q => absurd q (by decide)), (fun q => absurd q (by decide)), hT⟩ dX12_ruleLine_105
          · skip
            exfalso; exact ow_68_51 c759
      · skip
        replace hT := hT.trans (if_neg c56)
        refine pm_iconst (v := 0) hC dX12_ruleLine_35 ?_
        refine pm_goto (tgt := 82) hC dX12_ruleLine_36 (by decide) ?_
        refine pm_istore_n (lv' := [(1, (0, 0)), (0, (3, 90))]) hC dX12_ruleLine_82 (by decide) rfl ?_
        refine pm_iload_n hC 0 dX12_ruleLine_83 rfl ?_
        refine pm_iconst (v := (-1)) hC dX12_ruleLine_84 ?_
        refine pm_icmp_ne (tgt := 90) hC ⟨by decide, by decide⟩ ⟨by decide, by decide⟩ dX12_ruleLine_85 (by decide) (fun c1099 => ?_) (fun c1099 => ?_)
        · skip
          refine pm_aload_n hC 1 (by decide) dX12_ruleLine_90 rfl ?_
          refine pm_callV (ci := 12) (as := []) (st := []) hC 90 fP_X12_leads lm_X12_148 li_X12_leads (by decide) (by decide) rfl rfl rfl (by decide) rfl rfl (Nat.le_of_ble_eq_true rfl) ⟨Nat.le_refl _, Or.inl rfl⟩ dX12_ruleLine_91 ⟨rfl, hV30, hg32⟩ (fun r1100 V1101 hp1102 => ?_)
          obtain ⟨rfl, hV1103, hF1104, hg1105, hE1106⟩ := hp1102
          replace hT := hT.trans (pf_call_eq hE1106)
          change pm_J X 94 [(1, (0, 0)), (0, (3, 90))] [] 118 V1101
          have hF1107 := pm_fs.tr hF34 hF1104 (by decide) (by decide)
          have e1108 : V1101 90 33 = y1 := by rw [hF1104.2 33 (by decide)]; exact e35
          have e1109 : V1101 90 1 = y7 := by rw [hF1104.2 1 (by decide)]; exact e36
          have e1110 : V1101 90 32 = y16 := by rw [hF1104.2 32 (by decide)]; exact e37
          have hp1111 : pm_RLn V1101 := (pm_RLn.fr hp38 (hF1104.2 32 (by decide)) (hF1104.2 33 (by decide)) (hF1104.1 107 (by decide) (by decide)))
          obtain ⟨y1112, e1113⟩ : ∃ y, V1101 90 2 = y := ⟨_, rfl⟩
          have b1114 := hV1103.get 90 2 (lo := 0) (hi := 500) (by decide) (by decide) rfl
          rw [e1113] at b1114
          replace hT := hT.trans (pf_let_eq e1113)
          obtain ⟨y1115, e1116⟩ : ∃ y, V1101 90 3 = y := ⟨_, rfl⟩
          have b1117 := hV1103.get 90 3 (lo := 0) (hi := 4) (by decide) (by decide) rfl
          rw [e1116] at b1117
          replace hT := hT.trans (pf_let_eq e1116)
          obtain ⟨y1118, e1119⟩ : ∃ y, V1101 90 4 = y := ⟨_, rfl⟩
          have b1120 := hV1103.get 90 4 (lo := 0) (hi := 500) (by decide) (by decide) rfl
          rw [e1119] at b1120
          replace hT := hT.trans (pf_let_eq e1119)
          have hpr1121 := r_leads_pr hV30 hg32 hE1106
          have htk1122 : pm_tk V1101 := hpr1121.2.2.2.1
          have hRX := hRX.fr (hF1104.1 107 (by decide) (by decide)) (hF1104.2 33 (by decide))
          refine pm_aload_n hC 1 (by decide) dX12_ruleLine_94 rfl ?_
          refine pm_ldcwS (tx := "if") (q := 16) hC (by decide) dX12_ruleLine_95 ?_
          change pm_J X 98 [(1, (0, 0)), (0, (3, 90))] [(4, 16), (3, 90)] 118 V1101
          refine pm_callV (ci := 12) (as := [(4, 16)]) (st := []) hC 90 (fP_X12_isWord 16 ⟨by decide, by decide⟩) lm_X12_156 li_X12_isWord (by decide) (by decide) rfl rfl rfl (by decide) rfl rfl (Nat.le_of_ble_eq_true rfl) ⟨Nat.le_refl _, Or.inl rfl⟩ dX12_ruleLine_98 ⟨rfl, hV1103⟩ (fun r1123 V1124 hp1125 => ?_)
          obtain ⟨y1126, rfl, b1127, rfl, hE1128⟩ := hp1125
          replace hT := hT.trans (pf_call_eq hE1128)
          change pm_J X 101 [(1, (0, 0)), (0, (3, 90))] [(0, y1126)] 118 V1101
          refine pm_if_ne (tgt := 106) hC ⟨by exact ow_68_0 b1127, by exact ow_68_1 b1127⟩ dX12_ruleLine_101 (by decide) (fun c1129 => ?_) (fun c1129 => ?_)
          · skip
            replace hT := hT.trans (if_pos c1129)
            refine pm_iconst (v := 1) hC dX12_ruleLine_106 ?_
            refine pm_istore_n (lv' := [(2, (0, 1)), (1, (0, 0)), (0, (3, 90))]) hC dX12_ruleLine_107 (by decide) rfl ?_
            obtain ⟨B1143, hB1144, hT⟩ := pf_loop hT
            have L1146 : ∀ (N1148 : Nat) (x1130 : Int) (V1132 : pm_M), (0 ≤ x1130 ∧ x1130 ≤ 1) → pm_oq pm_qP V1132 → pm_fs [107, 109] [2, 3, 4, 5, 32, 33, 37, 39] V0 V1132 → V1132 90 1 = y7 → V1132 90 32 = y16 → pm_az V1132 → pm_tk V1132 → (V0 90 2 ≤ V1132 90 2) → (pm_RX V1132 0 (V0 90 32)) → (V1132 90 33 + 2 ≤ V1132 90 4) → (x1130 = 1 → V1132 90 3 = 1) → F_X12_ruleLine  V0 = pf_val ((0 : Int), V0) B1143 (x1130, V1132) → (Int.toNat (2 * (5 * (500 - V1132 90 2) + V1132 90 3) + x1130)) = N1148 → pm_J X 108 [(0, (3, 90)), (1, (0, 0)), (2, (0, x1130))] [] 118 V1132 := by
              intro N1148
              induction N1148 using Nat.strongRecOn with
              | _ N1148 ih1149 =>
              intro x1130 V1132 b1131 hV1133 hF1134 e1135 e1136 hp1137 hp1138 hm1139 hx1140 hx1141 hx1142 hT hm1147
              have hb1145 := congrFun hB1144 (x1130, V1132)
              obtain ⟨y1150, e1151⟩ : ∃ y, V1132 90 2 = y := ⟨_, rfl⟩
              have b1152 := hV1133.get 90 2 (lo := 0) (hi := 500) (by decide) (by decide) rfl
              rw [e1151] at b1152
              replace hb1145 := hb1145.trans (pf_let_eq e1151)
              obtain ⟨y1153, e1154⟩ : ∃ y, V1132 90 3 = y := ⟨_, rfl⟩
              have b1155 := hV1133.get 90 3 (lo := 0) (hi := 4) (by decide) (by decide) rfl
              rw [e1154] at b1155
              replace hb1145 := hb1145.trans (pf_let_eq e1154)
              obtain ⟨y1156, e1157⟩ : ∃ y, V1132 90 4 = y := ⟨_, rfl⟩
              have b1158 := hV1133.get 90 4 (lo := 0) (hi := 500) (by decide) (by decide) rfl
              rw [e1157] at b1158
              replace hb1145 := hb1145.trans (pf_let_eq e1157)
              obtain ⟨y1159, e1160⟩ : ∃ y, V1132 90 33 = y := ⟨_, rfl⟩
              have b1161 := hV1133.get 90 33 (lo := 0) (hi := 600) (by decide) (by decide) rfl
              rw [e1160] at b1161
              replace hb1145 := hb1145.trans (pf_let_eq e1160)
              have hRX := hx1140
              have hLn := hx1141
              have hMo := hx1142
              have htk := hp1138
              unfold pm_tk at htk
              refine pm_iload_n hC 2 dX12_ruleLine_108 rfl ?_
              refine pm_if_eq (tgt := 191) hC ⟨by exact ow_68_12 b1131, by exact ow_68_13 b1131⟩ dX12_ruleLine_109 (by decide) (fun c1162 => ?_) (fun c1162 => ?_)
              · skip
                replace hb1145 := hb1145.trans (if_pos c1162)
                refine pm_aload_n hC 0 (by decide) dX12_ruleLine_191 rfl ?_
                refine pm_bipush (v := 7) hC dX12_ruleLine_192 (by decide) ?_
                refine pm_iload_n hC 1 dX12_ruleLine_194 rfl ?_
                have q1166 : 0 ≤ V1132 90 33 ∧ V1132 90 33 ≤ 599 := by (have e : V1132 90 33 = y1159 := e1160); rw [e]; exact ⟨by exact ow_68_14 b1161, by exact ow_68_15 hx1141 e1157 b1158 e1160⟩
                refine pm_callV (ci := 12) (as := [(0, 7), (0, 0)]) (st := []) hC 90 (fP_X12_lays 7 0 ⟨by decide, by decide⟩ ⟨by decide, by decide⟩) lm_X12_248 li_X12_lays (by decide) (by decide) rfl rfl rfl (by decide) rfl rfl (Nat.le_of_ble_eq_true rfl) ⟨Nat.le_refl _, Or.inl rfl⟩ dX12_ruleLine_195 ⟨rfl, hV1133, q1166⟩ (fun r1163 V1164 hp1165 => ?_)
                obtain ⟨rfl, hV1167, hF1168, hxp1169, hE1170⟩ := hp1165
                replace hb1145 := hb1145.trans (pf_call_eq hE1170)
                change pm_J X 198 [(0, (3, 90)), (1, (0, 0)), (2, (0, x1130))] [] 118 V1164
                have hF1171 := pm_fs.tr hF1134 hF1168 (by decide) (by decide)
                have e1172 : V1164 90 1 = y7 := by rw [hF1168.2 1 (by decide)]; exact e1135
                have e1173 : V1164 90 32 = y16 := by rw [hF1168.2 32 (by decide)]; exact e1136
                have e1174 : V1164 90 2 = y1150 := by rw [hF1168.2 2 (by decide)]; exact e1151
                have e1175 : V1164 90 3 = y1153 := by rw [hF1168.2 3 (by decide)]; exact e1154
                have e1176 : V1164 90 4 = y1156 := by rw [hF1168.2 4 (by decide)]; exact e1157
                have hp1177 : pm_az V1164 := (pm_az.fr hp1137 (hF1168.2 1 (by decide)) (hF1168.2 2 (by decide)))
                have hp1178 : pm_tk V1164 := (pm_tk.fr hp1138 (hF1168.2 2 (by decide)) (hF1168.2 3 (by decide)) (hF1168.2 4 (by decide)))
                obtain ⟨y1179, e1180⟩ : ∃ y, V1164 90 33 = y := ⟨_, rfl⟩
                have b1181 := hV1167.get 90 33 (lo := 0) (hi := 600) (by decide) (by decide) rfl
                rw [e1180] at b1181
                replace hb1145 := hb1145.trans (pf_let_eq e1180)
                have hRX : pm_RX V1164 0 (V0 90 32 + 1) := hRX.last (by exact ow_68_16 q1166) hE1170 (by decide)
                refine pm_aload_n hC 0 (by decide) dX12_ruleLine_198 rfl ?_
                refine pm_dup hC rfl dX12_ruleLine_199 ?_
                refine pm_getf (v := y16) hC 90 fl_X12_271 rfl rfl (by decide) rfl e1173 dX12_ruleLine_200 ?_
                refine pm_iconst (v := 1) hC dX12_ruleLine_203 ?_
                refine pm_iadd hC dX12_ruleLine_204 ?_
                refine pm_putf hC 90 fl_X12_271 rfl rfl rfl (by decide) rfl trivial dX12_ruleLine_205 ?_
                refine pm_aload_n hC 0 (by decide) dX12_ruleLine_208 rfl ?_
                have hV1184 := (hV1167.put 90 32 (x := (y16 + 1)) (lo := 0) (hi := 10) rfl ⟨by exact ow_68_17 b18, by (exact ow_68_18 b18 c26)⟩)
                have hF1185 := (hF1171.upf 32 (y16 + 1) rfl)
                obtain ⟨V1182, hv1183⟩ : ∃ V, V = (pm_up V1164 90 32 (y16 + 1)) := ⟨_, rfl⟩
                rw [← hv1183] at hV1184 hF1185
                rw [← hv1183]
                replace hb1145 := hb1145.trans (pf_let_eq hv1183.symm)
                have e1186 : V1182 90 1 = y7 := by rw [hv1183]; exact e1172
                have e1187 : V1182 90 2 = y1150 := by rw [hv1183]; exact e1174
                have e1188 : V1182 90 3 = y1153 := by rw [hv1183]; exact e1175
                have e1189 : V1182 90 4 = y1156 := by rw [hv1183]; exact e1176
                have e1190 : V1182 90 33 = y1179 := by rw [hv1183]; exact e1180
                have e1191 : V1182 90 32 = (y16 + 1) := by rw [hv1183]; rfl
                have hp1192 : pm_az V1182 := by rw [hv1183]; exact (pm_az.fr hp1177 rfl rfl)
                have hp1193 : pm_tk V1182 := by rw [hv1183]; exact (pm_tk.fr hp1178 rfl rfl rfl)
                have hrl1194 : pm_RLn V1182 := by rw [hv1183]; exact pm_RLn.mk hRX (by exact ow_68_19 e17)
                refine pm_callV (ci := 12) (as := []) (st := []) hC 90 fP_X12_closes lm_X12_183 li_X12_closes (by decide) (by decide) rfl rfl rfl (by decide) rfl rfl (Nat.le_of_ble_eq_true rfl) ⟨Nat.le_refl _, Or.inl rfl⟩ dX12_ruleLine_209 ⟨rfl, hV1184, hp1192, hp1193⟩ (fun r1195 V1196 hp1197 => ?_)
                obtain ⟨y1198, rfl, b1199, hV1200, hF1201, hg1202, hg1203, hE1204⟩ := hp1197
                replace hb1145 := hb1145.trans (pf_call_eq hE1204)
                change pm_J X 212 [(0, (3, 90)), (1, (0, 0)), (2, (0, x1130))] [(0, y1198)] 118 V1196
                have hF1205 := pm_fs.tr hF1185 hF1201 (by decide) (by decide)
                have e1206 : V1196 90 1 = y7 := by rw [hF1201.2 1 (by decide)]; exact e1186
                have e1207 : V1196 90 33 = y1179 := by rw [hF1201.2 33 (by decide)]; exact e1190
                have e1208 : V1196 90 32 = (y16 + 1) := by rw [hF1201.2 32 (by decide)]; exact e1191
                have hp1209 : pm_RLn V1196 := (pm_RLn.fr hrl1194 (hF1201.2 32 (by decide)) (hF1201.2 33 (by decide)) (hF1201.1 107 (by decide) (by decide)))
                obtain ⟨y1210, e1211⟩ : ∃ y, V1196 90 2 = y := ⟨_, rfl⟩
                have b1212 := hV1200.get 90 2 (lo := 0) (hi := 500) (by decide) (by decide) rfl
                rw [e1211] at b1212
                replace hb1145 := hb1145.trans (pf_let_eq e1211)
                obtain ⟨y1213, e1214⟩ : ∃ y, V1196 90 3 = y := ⟨_, rfl⟩
                have b1215 := hV1200.get 90 3 (lo := 0) (hi := 4) (by decide) (by decide) rfl
                rw [e1214] at b1215
                replace hb1145 := hb1145.trans (pf_let_eq e1214)
                obtain ⟨y1216, e1217⟩ : ∃ y, V1196 90 4 = y := ⟨_, rfl⟩
                have b1218 := hV1200.get 90 4 (lo := 0) (hi := 500) (by decide) (by decide) rfl
                rw [e1217] at b1218
                replace hb1145 := hb1145.trans (pf_let_eq e1217)
                replace hT := hT.trans (pf_val_inr hb1145)
                exact pm_iret hC hR (pm_narZ (by exact ow_68_20 b1199)) ⟨y1198, rfl, ⟨by exact ow_68_21 b1199, by exact ow_68_22 b1199, by exact ow_68_23 hm1139 e1151 e1187 b1199, by exact ow_68_24 hm1139 e1151 e1187 b1199⟩, hV1200, hF1205, hg1202, hg1203, (fun _ => hp1209), (fun _ => by exact ow_68_25 hx1141 e1157 hxp1169 e1180 e1189 b1199 e1207), hT⟩ dX12_ruleLine_212
              · skip
                replace hb1145 := hb1145.trans (if_neg c1162)
                refine pm_aload_n hC 0 (by decide) dX12_ruleLine_112 rfl ?_
                refine pm_callV (ci := 12) (as := []) (st := []) hC 90 fP_X12_leads lm_X12_148 li_X12_leads (by decide) (by decide) rfl rfl rfl (by decide) rfl rfl (Nat.le_of_ble_eq_true rfl) ⟨Nat.le_refl _, Or.inl rfl⟩ dX12_ruleLine_113 ⟨rfl, hV1133, hp1137⟩ (fun r1219 V1220 hp1221 => ?_)
                obtain ⟨rfl, hV1222, hF1223, hg1224, hE1225⟩ := hp1221
                replace hb1145 := hb1145.trans (pf_call_eq hE1225)
                change pm_J X 116 [(0, (3, 90)), (1, (0, 0)), (2, (0, x1130))] [] 118 V1220
                have hF1226 := pm_fs.tr hF1134 hF1223 (by decide) (by decide)
                have e1227 : V1220 90 1 = y7 := by rw [hF1223.2 1 (by decide)]; exact e1135
                have e1228 : V1220 90 32 = y16 := by rw [hF1223.2 32 (by decide)]; exact e1136
                have e1229 : V1220 90 33 = y1159 := by rw [hF1223.2 33 (by decide)]; exact e1160
                obtain ⟨y1230, e1231⟩ : ∃ y, V1220 90 2 = y := ⟨_, rfl⟩
                have b1232 := hV1222.get 90 2 (lo := 0) (hi := 500) (by decide) (by decide) rfl
                rw [e1231] at b1232
                replace hb1145 := hb1145.trans (pf_let_eq e1231)
                obtain ⟨y1233, e1234⟩ : ∃ y, V1220 90 3 = y := ⟨_, rfl⟩
                have b1235 := hV1222.get 90 3 (lo := 0) (hi := 4) (by decide) (by decide) rfl
                rw [e1234] at b1235
                replace hb1145 := hb1145.trans (pf_let_eq e1234)
                obtain ⟨y1236, e1237⟩ : ∃ y, V1220 90 4 = y := ⟨_, rfl⟩
                have b1238 := hV1222.get 90 4 (lo := 0) (hi := 500) (by decide) (by decide) rfl
                rw [e1237] at b1238
                replace hb1145 := hb1145.trans (pf_let_eq e1237)
                have hpr1239 := r_leads_pr hV1133 hp1137 hE1225
                have htk1240 : pm_tk V1220 := hpr1239.2.2.2.1
                have hRX := hRX.fr (hF1223.1 107 (by decide) (by decide)) (hF1223.2 33 (by decide))
                refine pm_aload_n hC 0 (by decide) dX12_ruleLine_116 rfl ?_
                have hrw1241 : pm_rw V1220 := ⟨hRX.1, by rw [hRX.2.1]; decide⟩
                refine pm_callV (ci := 12) (as := []) (st := []) hC 90 fP_X12_sumHere lm_X12_284 li_X12_sumHere (by decide) (by decide) rfl rfl rfl (by decide) rfl rfl (Nat.le_of_ble_eq_true rfl) ⟨Nat.le_refl _, Or.inl rfl⟩ dX12_ruleLine_117 ⟨rfl, hV1222, (show V1220 90 33 ≤ V1220 90 4 by exact ow_68_26 hx1141 e1154 b1155 e1160 htk e1229 hpr1239), hg1224, htk1240, hrw1241⟩ (fun r1242 V1243 hp1244 => ?_)
                obtain ⟨y1245, rfl, b1246, hV1247, hF1248, hg1249, hg1250, hxp1251, hxp1252, hE1253⟩ := hp1244
                replace hb1145 := hb1145.trans (pf_call_eq hE1253)
                change pm_J X 120 [(0, (3, 90)), (1, (0, 0)), (2, (0, x1130))] [(0, y1245)] 118 V1243
                have hF1254 := pm_fs.tr hF1226 hF1248 (by decide) (by decide)
                have e1255 : V1243 90 1 = y7 := by rw [hF1248.2 1 (by decide)]; exact e1227
                have e1256 : V1243 90 32 = y16 := by rw [hF1248.2 32 (by decide)]; exact e1228
                obtain ⟨y1257, e1258⟩ : ∃ y, V1243 90 2 = y := ⟨_, rfl⟩
                have b1259 := hV1247.get 90 2 (lo := 0) (hi := 500) (by decide) (by decide) rfl
                rw [e1258] at b1259
                replace hb1145 := hb1145.trans (pf_let_eq e1258)
                obtain ⟨y1260, e1261⟩ : ∃ y, V1243 90 3 = y := ⟨_, rfl⟩
                have b1262 := hV1247.get 90 3 (lo := 0) (hi := 4) (by decide) (by decide) rfl
                rw [e1261] at b1262
                replace hb1145 := hb1145.trans (pf_let_eq e1261)
                obtain ⟨y1263, e1264⟩ : ∃ y, V1243 90 4 = y := ⟨_, rfl⟩
                have b1265 := hV1247.get 90 4 (lo := 0) (hi := 500) (by decide) (by decide) rfl
                rw [e1264] at b1265
                replace hb1145 := hb1145.trans (pf_let_eq e1264)
                obtain ⟨y1266, e1267⟩ : ∃ y, V1243 90 33 = y := ⟨_, rfl⟩
                have b1268 := hV1247.get 90 33 (lo := 0) (hi := 600) (by decide) (by decide) rfl
                rw [e1267] at b1268
                replace hb1145 := hb1145.trans (pf_let_eq e1267)
                have htk := hg1250
                unfold pm_tk at htk
                refine pm_if_ne (tgt := 125) hC ⟨by exact ow_68_27 b1246, by exact ow_68_28 b1246⟩ dX12_ruleLine_120 (by decide) (fun c1269 => ?_) (fun c1269 => ?_)
                · skip
                  replace hb1145 := hb1145.trans (if_pos c1269)
                  have hRX := hRX.sum (h1 := 1) (hxp1251 (by exact ow_68_29 b1246 c1269)) (by decide)
                  have hSl := hxp1252 (by exact ow_68_29 b1246 c1269)
                  refine pm_aload_n hC 0 (by decide) dX12_ruleLine_125 rfl ?_
                  refine pm_bipush (v := 60) hC dX12_ruleLine_126 (by decide) ?_
                  refine pm_callV (ci := 12) (as := [(0, 60)]) (st := []) hC 90 (fP_X12_isSign 60 ⟨by decide, by decide⟩) lm_X12_145 li_X12_isSign (by decide) (by decide) rfl rfl rfl (by decide) rfl rfl (Nat.le_of_ble_eq_true rfl) ⟨Nat.le_refl _, Or.inl rfl⟩ dX12_ruleLine_128 ⟨rfl, hV1247⟩ (fun r1270 V1271 hp1272 => ?_)
                  obtain ⟨y1273, rfl, b1274, rfl, hE1275⟩ := hp1272
                  replace hb1145 := hb1145.trans (pf_call_eq hE1275)
                  change pm_J X 131 [(0, (3, 90)), (1, (0, 0)), (2, (0, x1130))] [(0, y1273)] 118 V1243
                  refine pm_if_eq (tgt := 138) hC ⟨by exact ow_68_30 b1274, by exact ow_68_31 b1274⟩ dX12_ruleLine_131 (by decide) (fun c1276 => ?_) (fun c1276 => ?_)
                  · skip
                    replace hb1145 := hb1145.trans (if_pos c1276)
                    refine pm_aload_n hC 0 (by decide) dX12_ruleLine_138 rfl ?_
                    refine pm_bipush (v := 61) hC dX12_ruleLine_139 (by decide) ?_
                    refine pm_callV (ci := 12) (as := [(0, 61)]) (st := []) hC 90 (fP_X12_isSign 61 ⟨by decide, by decide⟩) lm_X12_145 li_X12_isSign (by decide) (by decide) rfl rfl rfl (by decide) rfl rfl (Nat.le_of_ble_eq_true rfl) ⟨Nat.le_refl _, Or.inl rfl⟩ dX12_ruleLine_141 ⟨rfl, hV1247⟩ (fun r1277 V1278 hp1279 => ?_)
                    obtain ⟨y1280, rfl, b1281, rfl, hE1282⟩ := hp1279
                    replace hb1145 := hb1145.trans (pf_call_eq hE1282)
                    change pm_J X 144 [(0, (3, 90)), (1, (0, 0)), (2, (0, x1130))] [(0, y1280)] 118 V1243
                    refine pm_if_eq (tgt := 152) hC ⟨by exact ow_68_30 b1281, by exact ow_68_31 b1281⟩ dX12_ruleLine_144 (by decide) (fun c1283 => ?_) (fun c1283 => ?_)
                    · skip
                      replace hb1145 := hb1145.trans (if_pos c1283)
                      refine pm_iconst (v := (-1)) hC dX12_ruleLine_152 ?_
                      refine pm_istore_n (lv' := [(3, (0, (-1))), (0, (3, 90)), (1, (0, 0)), (2, (0, x1130))]) hC dX12_ruleLine_153 (by decide) rfl ?_
                      refine pm_iload_n hC 0 dX12_ruleLine_154 rfl ?_
                      refine pm_iconst (v := (-1)) hC dX12_ruleLine_155 ?_
                      refine pm_icmp_ne (tgt := 161) hC ⟨by decide, by decide⟩ ⟨by decide, by decide⟩ dX12_ruleLine_156 (by decide) (fun c1284 => ?_) (fun c1284 => ?_)
                      · skip
                        exfalso; exact ow_68_9 c1284
                      · skip
                        refine pm_iconst (v := 0) hC dX12_ruleLine_159 ?_
                        replace hT := hT.trans (pf_val_inr hb1145)
                        exact pm_iret hC hR (pm_narZ (by exact ow_68_2)) ⟨0, rfl, ⟨by exact ow_68_3, by exact ow_68_4, by exact ow_68_10, by exact ow_68_32 hm1139 hpr1239 b1246⟩, hV1247, hF1254, hg1249, hg1250, (fun q => absurd q (by decide)), (fun q => absurd q (by decide)), hT⟩ dX12_ruleLine_160
                    · skip
                      replace hb1145 := hb1145.trans (if_neg c1283)
                      refine pm_bipush (v := 6) hC dX12_ruleLine_147 (by decide) ?_
                      refine pm_goto (tgt := 153) hC dX12_ruleLine_149 (by decide) ?_
                      refine pm_istore_n (lv' := [(3, (0, 6)), (0, (3, 90)), (1, (0, 0)), (2, (0, x1130))]) hC dX12_ruleLine_153 (by decide) rfl ?_
                      refine pm_iload_n hC 0 dX12_ruleLine_154 rfl ?_
                      refine pm_iconst (v := (-1)) hC dX12_ruleLine_155 ?_
                      refine pm_icmp_ne (tgt := 161) hC ⟨by decide, by decide⟩ ⟨by decide, by decide⟩ dX12_ruleLine_156 (by decide) (fun c1285 => ?_) (fun c1285 => ?_)
                      · skip
                        refine pm_aload_n hC 1 (by decide) dX12_ruleLine_161 rfl ?_
                        refine pm_callV (ci := 12) (as := []) (st := []) hC 90 fP_X12_leads lm_X12_148 li_X12_leads (by decide) (by decide) rfl rfl rfl (by decide) rfl rfl (Nat.le_of_ble_eq_true rfl) ⟨Nat.le_refl _, Or.inl rfl⟩ dX12_ruleLine_162 ⟨rfl, hV1247, hg1249⟩ (fun r1286 V1287 hp1288 => ?_)
                        obtain ⟨rfl, hV1289, hF1290, hg1291, hE1292⟩ := hp1288
                        replace hb1145 := hb1145.trans (pf_call_eq hE1292)
                        change pm_J X 165 [(3, (0, 6)), (0, (3, 90)), (1, (0, 0)), (2, (0, x1130))] [] 118 V1287
                        have hF1293 := pm_fs.tr hF1254 hF1290 (by decide) (by decide)
                        have e1294 : V1287 90 1 = y7 := by rw [hF1290.2 1 (by decide)]; exact e1255
                        have e1295 : V1287 90 32 = y16 := by rw [hF1290.2 32 (by decide)]; exact e1256
                        have e1296 : V1287 90 33 = y1266 := by rw [hF1290.2 33 (by decide)]; exact e1267
                        obtain ⟨y1297, e1298⟩ : ∃ y, V1287 90 2 = y := ⟨_, rfl⟩
                        have b1299 := hV1289.get 90 2 (lo := 0) (hi := 500) (by decide) (by decide) rfl
                        rw [e1298] at b1299
                        replace hb1145 := hb1145.trans (pf_let_eq e1298)
                        obtain ⟨y1300, e1301⟩ : ∃ y, V1287 90 3 = y := ⟨_, rfl⟩
                        have b1302 := hV1289.get 90 3 (lo := 0) (hi := 4) (by decide) (by decide) rfl
                        rw [e1301] at b1302
                        replace hb1145 := hb1145.trans (pf_let_eq e1301)
                        obtain ⟨y1303, e1304⟩ : ∃ y, V1287 90 4 = y := ⟨_, rfl⟩
                        have b1305 := hV1289.get 90 4 (lo := 0) (hi := 500) (by decide) (by decide) rfl
                        rw [e1304] at b1305
                        replace hb1145 := hb1145.trans (pf_let_eq e1304)
                        have hpr1306 := r_leads_pr hV1247 hg1249 hE1292
                        have htk1307 : pm_tk V1287 := hpr1306.2.2.2.1
                        have hRX := hRX.fr (hF1290.1 107 (by decide) (by decide)) (hF1290.2 33 (by decide))
                        refine pm_aload_n hC 1 (by decide) dX12_ruleLine_165 rfl ?_
                        have hrw1308 : pm_rw V1287 := ⟨hRX.1, by rw [hRX.2.1]; decide⟩
                        refine pm_callV (ci := 12) (as := []) (st := []) hC 90 fP_X12_sumHere lm_X12_284 li_X12_sumHere (by decide) (by decide) rfl rfl rfl (by decide) rfl rfl (Nat.le_of_ble_eq_true rfl) ⟨Nat.le_refl _, Or.inl rfl⟩ dX12_ruleLine_166 ⟨rfl, hV1289, (show V1287 90 33 ≤ V1287 90 4 by (exact ow_68_33 hx1141 e1154 b1155 e1160 ‹V1132 90 3 ≤ 4 * (V1132 90 2 - V1132 90 4)› e1229 hpr1239 e1261 b1262 e1267 htk hSl e1296 hpr1306)), hg1291, htk1307, hrw1308⟩ (fun r1309 V1310 hp1311 => ?_)
                        obtain ⟨y1312, rfl, b1313, hV1314, hF1315, hg1316, hg1317, hxp1318, hxp1319, hE1320⟩ := hp1311
                        replace hb1145 := hb1145.trans (pf_call_eq hE1320)
                        change pm_J X 169 [(3, (0, 6)), (0, (3, 90)), (1, (0, 0)), (2, (0, x1130))] [(0, y1312)] 118 V1310
                        have hF1321 := pm_fs.tr hF1293 hF1315 (by decide) (by decide)
                        have e1322 : V1310 90 1 = y7 := by rw [hF1315.2 1 (by decide)]; exact e1294
                        have e1323 : V1310 90 32 = y16 := by rw [hF1315.2 32 (by decide)]; exact e1295
                        obtain ⟨y1324, e1325⟩ : ∃ y, V1310 90 2 = y := ⟨_, rfl⟩
                        have b1326 := hV1314.get 90 2 (lo := 0) (hi := 500) (by decide) (by decide) rfl
                        rw [e1325] at b1326
                        replace hb1145 := hb1145.trans (pf_let_eq e1325)
                        obtain ⟨y1327, e1328⟩ : ∃ y, V1310 90 3 = y := ⟨_, rfl⟩
                        have b1329 := hV1314.get 90 3 (lo := 0) (hi := 4) (by decide) (by decide) rfl
                        rw [e1328] at b1329
                        replace hb1145 := hb1145.trans (pf_let_eq e1328)
                        obtain ⟨y1330, e1331⟩ : ∃ y, V1310 90 4 = y := ⟨_, rfl⟩
                        have b1332 := hV1314.get 90 4 (lo := 0) (hi := 500) (by decide) (by decide) rfl
                        rw [e1331] at b1332
                        replace hb1145 := hb1145.trans (pf_let_eq e1331)
                        obtain ⟨y1333, e1334⟩ : ∃ y, V1310 90 33 = y := ⟨_, rfl⟩
                        have b1335 := hV1314.get 90 33 (lo := 0) (hi := 600) (by decide) (by decide) rfl
                        rw [e1334] at b1335
                        replace hb1145 := hb1145.trans (pf_let_eq e1334)
                        have htk := hg1317
                        unfold pm_tk at htk
                        refine pm_if_ne (tgt := 174) hC ⟨by exact ow_68_27 b1313, by exact ow_68_28 b1313⟩ dX12_ruleLine_169 (by decide) (fun c1336 => ?_) (fun c1336 => ?_)
                        · skip
                          replace hb1145 := hb1145.trans (if_pos c1336)
                          have hRX := hRX.sum (h1 := 2) (hxp1318 (by exact ow_68_29 b1313 c1336)) (by decide)
                          have hSl := hxp1319 (by exact ow_68_29 b1313 c1336)
                          refine pm_aload_n hC 1 (by decide) dX12_ruleLine_174 rfl ?_
                          refine pm_iload_n hC 0 dX12_ruleLine_175 rfl ?_
                          refine pm_iconst (v := 0) hC dX12_ruleLine_176 ?_
                          have q1340 : 0 ≤ V1310 90 33 ∧ V1310 90 33 ≤ 599 := by (have e : V1310 90 33 = y1333 := e1334); rw [e]; exact ⟨by exact ow_68_14 b1335, by (clear hmp0 e2 b3 e5 b6 e8 b9 e11 b12 e14 b15 e17 b18 hsz b23 c25 c26 e35 e36 e37 e40 b41 e43 b44 e46 b47 hpr48 b54 c56 c1099 e1108 e1109 e1110 e1113 b1114 e1116 b1117 e1119 b1120 hpr1121 b1127 c1129 b1131 e1135 e1136 hm1139 hx1142 hm1147 b1152 b1158 b1161 hLn hMo c1162 e1227 e1228 e1231 b1232 e1234 b1235 b1238 b1246 hxp1251 hxp1252 e1255 e1256 b1259 b1265 b1268 c1269 b1274 c1276 b1281 c1283 c1285 e1294 e1295 e1298 b1299 e1301 b1302 b1305 b1313 hxp1318 hxp1319 e1322 e1323 e1325 b1326 e1328 b1329 htk c1336 e; exact ow_68_34 hx1141 e1154 b1155 e1160 ‹V1132 90 3 ≤ 4 * (V1132 90 2 - V1132 90 4)› e1229 hpr1239 e1261 b1262 e1267 htk ‹V1243 90 33 + V1220 90 4 ≤ V1243 90 4 + V1220 90 33› e1296 hpr1306 e1331 b1332 e1334 hSl)⟩
                          refine pm_callV (ci := 12) (as := [(0, 6), (0, 0)]) (st := []) hC 90 (fP_X12_lays 6 0 ⟨by decide, by decide⟩ ⟨by decide, by decide⟩) lm_X12_248 li_X12_lays (by decide) (by decide) rfl rfl rfl (by decide) rfl rfl (Nat.le_of_ble_eq_true rfl) ⟨Nat.le_refl _, Or.inl rfl⟩ dX12_ruleLine_177 ⟨rfl, hV1314, q1340⟩ (fun r1337 V1338 hp1339 => ?_)
                          obtain ⟨rfl, hV1341, hF1342, hxp1343, hE1344⟩ := hp1339
                          replace hb1145 := hb1145.trans (pf_call_eq hE1344)
                          change pm_J X 180 [(3, (0, 6)), (0, (3, 90)), (1, (0, 0)), (2, (0, x1130))] [] 118 V1338
                          have hF1345 := pm_fs.tr hF1321 hF1342 (by decide) (by decide)
                          have e1346 : V1338 90 1 = y7 := by rw [hF1342.2 1 (by decide)]; exact e1322
                          have e1347 : V1338 90 32 = y16 := by rw [hF1342.2 32 (by decide)]; exact e1323
                          have e1348 : V1338 90 2 = y1324 := by rw [hF1342.2 2 (by decide)]; exact e1325
                          have e1349 : V1338 90 3 = y1327 := by rw [hF1342.2 3 (by decide)]; exact e1328
                          have e1350 : V1338 90 4 = y1330 := by rw [hF1342.2 4 (by decide)]; exact e1331
                          have hp1351 : pm_az V1338 := (pm_az.fr hg1316 (hF1342.2 1 (by decide)) (hF1342.2 2 (by decide)))
                          have hp1352 : pm_tk V1338 := (pm_tk.fr hg1317 (hF1342.2 2 (by decide)) (hF1342.2 3 (by decide)) (hF1342.2 4 (by decide)))
                          obtain ⟨y1353, e1354⟩ : ∃ y, V1338 90 33 = y := ⟨_, rfl⟩
                          have b1355 := hV1341.get 90 33 (lo := 0) (hi := 600) (by decide) (by decide) rfl
                          rw [e1354] at b1355
                          replace hb1145 := hb1145.trans (pf_let_eq e1354)
                          have hRX : pm_RX V1338 0 (V0 90 32) := hRX.lay (by exact ow_68_16 q1340) hE1344 (by decide) (Or.inr rfl)
                          refine pm_aload_n hC 1 (by decide) dX12_ruleLine_180 rfl ?_
                          refine pm_ldcwS (tx := "and") (q := 17) hC (by decide) dX12_ruleLine_181 ?_
                          change pm_J X 184 [(3, (0, 6)), (0, (3, 90)), (1, (0, 0)), (2, (0, x1130))] [(4, 17), (3, 90)] 118 V1338
                          refine pm_callV (ci := 12) (as := [(4, 17)]) (st := []) hC 90 (fP_X12_isWord 17 ⟨by decide, by decide⟩) lm_X12_156 li_X12_isWord (by decide) (by decide) rfl rfl rfl (by decide) rfl rfl (Nat.le_of_ble_eq_true rfl) ⟨Nat.le_refl _, Or.inl rfl⟩ dX12_ruleLine_184 ⟨rfl, hV1341⟩ (fun r1356 V1357 hp1358 => ?_)
                          obtain ⟨y1359, rfl, b1360, rfl, hE1361⟩ := hp1358
                          replace hb1145 := hb1145.trans (pf_call_eq hE1361)
                          change pm_J X 187 [(3, (0, 6)), (0, (3, 90)), (1, (0, 0)), (2, (0, x1130))] [(0, y1359)] 118 V1338
                          refine pm_istore_n (lv' := [(2, (0, y1359)), (3, (0, 6)), (0, (3, 90)), (1, (0, 0))]) hC dX12_ruleLine_187 (by decide) rfl ?_
                          refine pm_goto (tgt := 108) hC dX12_ruleLine_188 (by decide) ?_
                          refine pm_lvsub [2, 3, 0] (lv' := [(0, (3, 90)), (1, (0, 0)), (2, (0, y1359))]) rfl ?_
                          exact ih1149 _ (by (exact ow_68_52 b1131 hm1147 e1151 b1152 hMo c1162 e1234 b1235 hpr1239 b1246 hpr1306 b1313 e1325 e1328 c1336 e1348 e1349 b1360)) y1359 V1338 ⟨by exact ow_68_36 b1360, by exact ow_68_37 b1360⟩ hV1341 hF1345 e1346 e1347 hp1351 hp1352 (by (have e : V1338 90 2 = y1324 := e1348); rw [e]; exact ow_68_38 hm1139 hpr1239 b1246 hpr1306 b1313 e1325) hRX (by rw [(show V1338 90 33 = y1353 from e1354), (show V1338 90 4 = y1330 from e1350)]; (clear hmp0 e2 b3 e5 b6 e8 b9 e11 b12 e14 b15 e17 b18 hsz b23 c25 c26 e35 e36 e37 e40 b41 e43 b44 e46 b47 hpr48 b54 c56 c1099 e1108 e1109 e1110 e1113 b1114 e1116 b1117 e1119 b1120 hpr1121 b1127 c1129 b1131 e1135 e1136 hm1139 hx1142 hm1147 b1152 b1158 b1161 hLn hMo c1162 e1227 e1228 e1231 b1232 e1234 b1235 b1238 b1246 hxp1251 hxp1252 e1255 e1256 b1259 b1262 b1265 b1268 c1269 b1274 c1276 e1294 e1295 e1298 b1299 e1301 b1302 b1305 e1322 e1323 e1325 b1326 e1328 b1329 b1332 b1335 htk q1340 e1346 e1347 e1348 e1349 b1355; exact ow_68_39 hx1141 e1154 b1155 e1160 ‹V1132 90 3 ≤ 4 * (V1132 90 2 - V1132 90 4)› e1229 hpr1239 e1267 htk ‹V1243 90 33 + V1220 90 4 ≤ V1243 90 4 + V1220 90 33› b1281 c1283 e1296 hpr1306 e1331 hSl hxp1343 e1354)) (by rw [(show V1338 90 3 = y1327 from e1349)]; exact ow_68_40 e1349 b1360) (hT.trans (pf_val_inl hb1145)) rfl
                        · skip
                          replace hb1145 := hb1145.trans (if_neg (fun q => q c1336))
                          refine pm_iconst (v := 0) hC dX12_ruleLine_172 ?_
                          replace hT := hT.trans (pf_val_inr hb1145)
                          exact pm_iret hC hR (pm_narZ (by exact ow_68_2)) ⟨0, rfl, ⟨by exact ow_68_3, by exact ow_68_4, by exact ow_68_10, by exact ow_68_41 hm1139 hpr1239 b1246 hpr1306 b1313⟩, hV1314, hF1321, hg1316, hg1317, (fun q => absurd q (by decide)), (fun q => absurd q (by decide)), hT⟩ dX12_ruleLine_173
                      · skip
                        exfalso; exact ow_68_42 c1285
                  · skip
                    replace hb1145 := hb1145.trans (if_neg c1276)
                    refine pm_iconst (v := 5) hC dX12_ruleLine_134 ?_
                    refine pm_goto (tgt := 153) hC dX12_ruleLine_135 (by decide) ?_
                    refine pm_istore_n (lv' := [(3, (0, 5)), (0, (3, 90)), (1, (0, 0)), (2, (0, x1130))]) hC dX12_ruleLine_153 (by decide) rfl ?_
                    refine pm_iload_n hC 0 dX12_ruleLine_154 rfl ?_
                    refine pm_iconst (v := (-1)) hC dX12_ruleLine_155 ?_
                    refine pm_icmp_ne (tgt := 161) hC ⟨by decide, by decide⟩ ⟨by decide, by decide⟩ dX12_ruleLine_156 (by decide) (fun c1362 => ?_) (fun c1362 => ?_)
                    · skip
                      refine pm_aload_n hC 1 (by decide) dX12_ruleLine_161 rfl ?_
                      refine pm_callV (ci := 12) (as := []) (st := []) hC 90 fP_X12_leads lm_X12_148 li_X12_leads (by decide) (by decide) rfl rfl rfl (by decide) rfl rfl (Nat.le_of_ble_eq_true rfl) ⟨Nat.le_refl _, Or.inl rfl⟩ dX12_ruleLine_162 ⟨rfl, hV1247, hg1249⟩ (fun r1363 V1364 hp1365 => ?_)
                      obtain ⟨rfl, hV1366, hF1367, hg1368, hE1369⟩ := hp1365
                      replace hb1145 := hb1145.trans (pf_call_eq hE1369)
                      change pm_J X 165 [(3, (0, 5)), (0, (3, 90)), (1, (0, 0)), (2, (0, x1130))] [] 118 V1364
                      have hF1370 := pm_fs.tr hF1254 hF1367 (by decide) (by decide)
                      have e1371 : V1364 90 1 = y7 := by rw [hF1367.2 1 (by decide)]; exact e1255
                      have e1372 : V1364 90 32 = y16 := by rw [hF1367.2 32 (by decide)]; exact e1256
                      have e1373 : V1364 90 33 = y1266 := by rw [hF1367.2 33 (by decide)]; exact e1267
                      obtain ⟨y1374, e1375⟩ : ∃ y, V1364 90 2 = y := ⟨_, rfl⟩
                      have b1376 := hV1366.get 90 2 (lo := 0) (hi := 500) (by decide) (by decide) rfl
                      rw [e1375] at b1376
                      replace hb1145 := hb1145.trans (pf_let_eq e1375)
                      obtain ⟨y1377, e1378⟩ : ∃ y, V1364 90 3 = y := ⟨_, rfl⟩
                      have b1379 := hV1366.get 90 3 (lo := 0) (hi := 4) (by decide) (by decide) rfl
                      rw [e1378] at b1379
                      replace hb1145 := hb1145.trans (pf_let_eq e1378)
                      obtain ⟨y1380, e1381⟩ : ∃ y, V1364 90 4 = y := ⟨_, rfl⟩
                      have b1382 := hV1366.get 90 4 (lo := 0) (hi := 500) (by decide) (by decide) rfl
                      rw [e1381] at b1382
                      replace hb1145 := hb1145.trans (pf_let_eq e1381)
                      have hpr1383 := r_leads_pr hV1247 hg1249 hE1369
                      have htk1384 : pm_tk V1364 := hpr1383.2.2.2.1
                      have hRX := hRX.fr (hF1367.1 107 (by decide) (by decide)) (hF1367.2 33 (by decide))
                      refine pm_aload_n hC 1 (by decide) dX12_ruleLine_165 rfl ?_
                      have hrw1385 : pm_rw V1364 := ⟨hRX.1, by rw [hRX.2.1]; decide⟩
                      refine pm_callV (ci := 12) (as := []) (st := []) hC 90 fP_X12_sumHere lm_X12_284 li_X12_sumHere (by decide) (by decide) rfl rfl rfl (by decide) rfl rfl (Nat.le_of_ble_eq_true rfl) ⟨Nat.le_refl _, Or.inl rfl⟩ dX12_ruleLine_166 ⟨rfl, hV1366, (show V1364 90 33 ≤ V1364 90 4 by (exact ow_68_33 hx1141 e1154 b1155 e1160 ‹V1132 90 3 ≤ 4 * (V1132 90 2 - V1132 90 4)› e1229 hpr1239 e1261 b1262 e1267 htk hSl e1373 hpr1383)), hg1368, htk1384, hrw1385⟩ (fun r1386 V1387 hp1388 => ?_)
                      obtain ⟨y1389, rfl, b1390, hV1391, hF1392, hg1393, hg1394, hxp1395, hxp1396, hE1397⟩ := hp1388
                      replace hb1145 := hb1145.trans (pf_call_eq hE1397)
                      change pm_J X 169 [(3, (0, 5)), (0, (3, 90)), (1, (0, 0)), (2, (0, x1130))] [(0, y1389)] 118 V1387
                      have hF1398 := pm_fs.tr hF1370 hF1392 (by decide) (by decide)
                      have e1399 : V1387 90 1 = y7 := by rw [hF1392.2 1 (by decide)]; exact e1371
                      have e1400 : V1387 90 32 = y16 := by rw [hF1392.2 32 (by decide)]; exact e1372
                      obtain ⟨y1401, e1402⟩ : ∃ y, V1387 90 2 = y := ⟨_, rfl⟩
                      have b1403 := hV1391.get 90 2 (lo := 0) (hi := 500) (by decide) (by decide) rfl
                      rw [e1402] at b1403
                      replace hb1145 := hb1145.trans (pf_let_eq e1402)
                      obtain ⟨y1404, e1405⟩ : ∃ y, V1387 90 3 = y := ⟨_, rfl⟩
                      have b1406 := hV1391.get 90 3 (lo := 0) (hi := 4) (by decide) (by decide) rfl
                      rw [e1405] at b1406
                      replace hb1145 := hb1145.trans (pf_let_eq e1405)
                      obtain ⟨y1407, e1408⟩ : ∃ y, V1387 90 4 = y := ⟨_, rfl⟩
                      have b1409 := hV1391.get 90 4 (lo := 0) (hi := 500) (by decide) (by decide) rfl
                      rw [e1408] at b1409
                      replace hb1145 := hb1145.trans (pf_let_eq e1408)
                      obtain ⟨y1410, e1411⟩ : ∃ y, V1387 90 33 = y := ⟨_, rfl⟩
                      have b1412 := hV1391.get 90 33 (lo := 0) (hi := 600) (by decide) (by decide) rfl
                      rw [e1411] at b1412
                      replace hb1145 := hb1145.trans (pf_let_eq e1411)
                      have htk := hg1394
                      unfold pm_tk at htk
                      refine pm_if_ne (tgt := 174) hC ⟨by exact ow_68_27 b1390, by exact ow_68_28 b1390⟩ dX12_ruleLine_169 (by decide) (fun c1413 => ?_) (fun c1413 => ?_)
                      · skip
                        replace hb1145 := hb1145.trans (if_pos c1413)
                        have hRX := hRX.sum (h1 := 2) (hxp1395 (by exact ow_68_29 b1390 c1413)) (by decide)
                        have hSl := hxp1396 (by exact ow_68_29 b1390 c1413)
                        refine pm_aload_n hC 1 (by decide) dX12_ruleLine_174 rfl ?_
                        refine pm_iload_n hC 0 dX12_ruleLine_175 rfl ?_
                        refine pm_iconst (v := 0) hC dX12_ruleLine_176 ?_
                        have q1417 : 0 ≤ V1387 90 33 ∧ V1387 90 33 ≤ 599 := by (have e : V1387 90 33 = y1410 := e1411); rw [e]; exact ⟨by exact ow_68_14 b1412, by (clear hmp0 e2 b3 e5 b6 e8 b9 e11 b12 e14 b15 e17 b18 hsz b23 c25 c26 e35 e36 e37 e40 b41 e43 b44 e46 b47 hpr48 b54 c56 c1099 e1108 e1109 e1110 e1113 b1114 e1116 b1117 e1119 b1120 hpr1121 b1127 c1129 b1131 e1135 e1136 hm1139 hx1142 hm1147 b1152 b1158 b1161 hLn hMo c1162 e1227 e1228 e1231 b1232 e1234 b1235 b1238 b1246 hxp1251 hxp1252 e1255 e1256 b1259 b1265 b1268 c1269 b1274 c1276 c1362 e1371 e1372 e1375 b1376 e1378 b1379 b1382 b1390 hxp1395 hxp1396 e1399 e1400 e1402 b1403 e1405 b1406 htk c1413 e; exact ow_68_34 hx1141 e1154 b1155 e1160 ‹V1132 90 3 ≤ 4 * (V1132 90 2 - V1132 90 4)› e1229 hpr1239 e1261 b1262 e1267 htk ‹V1243 90 33 + V1220 90 4 ≤ V1243 90 4 + V1220 90 33› e1373 hpr1383 e1408 b1409 e1411 hSl)⟩
                        refine pm_callV (ci := 12) (as := [(0, 5), (0, 0)]) (st := []) hC 90 (fP_X12_lays 5 0 ⟨by decide, by decide⟩ ⟨by decide, by decide⟩) lm_X12_248 li_X12_lays (by decide) (by decide) rfl rfl rfl (by decide) rfl rfl (Nat.le_of_ble_eq_true rfl) ⟨Nat.le_refl _, Or.inl rfl⟩ dX12_ruleLine_177 ⟨rfl, hV1391, q1417⟩ (fun r1414 V1415 hp1416 => ?_)
                        obtain ⟨rfl, hV1418, hF1419, hxp1420, hE1421⟩ := hp1416
                        replace hb1145 := hb1145.trans (pf_call_eq hE1421)
                        change pm_J X 180 [(3, (0, 5)), (0, (3, 90)), (1, (0, 0)), (2, (0, x1130))] [] 118 V1415
                        have hF1422 := pm_fs.tr hF1398 hF1419 (by decide) (by decide)
                        have e1423 : V1415 90 1 = y7 := by rw [hF1419.2 1 (by decide)]; exact e1399
                        have e1424 : V1415 90 32 = y16 := by rw [hF1419.2 32 (by decide)]; exact e1400
                        have e1425 : V1415 90 2 = y1401 := by rw [hF1419.2 2 (by decide)]; exact e1402
                        have e1426 : V1415 90 3 = y1404 := by rw [hF1419.2 3 (by decide)]; exact e1405
                        have e1427 : V1415 90 4 = y1407 := by rw [hF1419.2 4 (by decide)]; exact e1408
                        have hp1428 : pm_az V1415 := (pm_az.fr hg1393 (hF1419.2 1 (by decide)) (hF1419.2 2 (by decide)))
                        have hp1429 : pm_tk V1415 := (pm_tk.fr hg1394 (hF1419.2 2 (by decide)) (hF1419.2 3 (by decide)) (hF1419.2 4 (by decide)))
                        obtain ⟨y1430, e1431⟩ : ∃ y, V1415 90 33 = y := ⟨_, rfl⟩
                        have b1432 := hV1418.get 90 33 (lo := 0) (hi := 600) (by decide) (by decide) rfl
                        rw [e1431] at b1432
                        replace hb1145 := hb1145.trans (pf_let_eq e1431)
                        have hRX : pm_RX V1415 0 (V0 90 32) := hRX.lay (by exact ow_68_16 q1417) hE1421 (by decide) (Or.inl rfl)
                        refine pm_aload_n hC 1 (by decide) dX12_ruleLine_180 rfl ?_
                        refine pm_ldcwS (tx := "and") (q := 17) hC (by decide) dX12_ruleLine_181 ?_
                        change pm_J X 184 [(3, (0, 5)), (0, (3, 90)), (1, (0, 0)), (2, (0, x1130))] [(4, 17), (3, 90)] 118 V1415
                        refine pm_callV (ci := 12) (as := [(4, 17)]) (st := []) hC 90 (fP_X12_isWord 17 ⟨by decide, by decide⟩) lm_X12_156 li_X12_isWord (by decide) (by decide) rfl rfl rfl (by decide) rfl rfl (Nat.le_of_ble_eq_true rfl) ⟨Nat.le_refl _, Or.inl rfl⟩ dX12_ruleLine_184 ⟨rfl, hV1418⟩ (fun r1433 V1434 hp1435 => ?_)
                        obtain ⟨y1436, rfl, b1437, rfl, hE1438⟩ := hp1435
                        replace hb1145 := hb1145.trans (pf_call_eq hE1438)
                        change pm_J X 187 [(3, (0, 5)), (0, (3, 90)), (1, (0, 0)), (2, (0, x1130))] [(0, y1436)] 118 V1415
                        refine pm_istore_n (lv' := [(2, (0, y1436)), (3, (0, 5)), (0, (3, 90)), (1, (0, 0))]) hC dX12_ruleLine_187 (by decide) rfl ?_
                        refine pm_goto (tgt := 108) hC dX12_ruleLine_188 (by decide) ?_
                        refine pm_lvsub [2, 3, 0] (lv' := [(0, (3, 90)), (1, (0, 0)), (2, (0, y1436))]) rfl ?_
                        exact ih1149 _ (by (exact ow_68_53 b9 b1131 e1135 hm1147 hMo c1162 e1234 b1235 hpr1239 b1246 hpr1383 b1390 e1402 e1405 c1413 e1425 e1426 b1437)) y1436 V1415 ⟨by exact ow_68_36 b1437, by exact ow_68_37 b1437⟩ hV1418 hF1422 e1423 e1424 hp1428 hp1429 (by (have e : V1415 90 2 = y1401 := e1425); rw [e]; exact ow_68_38 hm1139 hpr1239 b1246 hpr1383 b1390 e1402) hRX (by rw [(show V1415 90 33 = y1430 from e1431), (show V1415 90 4 = y1407 from e1427)]; (clear hmp0 e2 b3 e5 b6 e8 b9 e11 b12 e14 b15 e17 b18 hsz b23 c25 c26 e35 e36 e37 e40 b41 e43 b44 e46 b47 hpr48 b54 c56 c1099 e1108 e1109 e1110 e1113 b1114 e1116 b1117 e1119 b1120 hpr1121 b1127 c1129 b1131 e1135 e1136 hm1139 hx1142 hm1147 b1152 b1158 b1161 hLn hMo c1162 e1227 e1228 e1231 b1232 e1234 b1235 b1238 b1246 hxp1251 hxp1252 e1255 e1256 b1259 b1262 b1265 b1268 c1269 e1371 e1372 e1375 b1376 e1378 b1379 b1382 e1399 e1400 e1402 b1403 e1405 b1406 b1409 b1412 htk q1417 e1423 e1424 e1425 e1426 b1432; exact ow_68_39 hx1141 e1154 b1155 e1160 ‹V1132 90 3 ≤ 4 * (V1132 90 2 - V1132 90 4)› e1229 hpr1239 e1267 htk ‹V1243 90 33 + V1220 90 4 ≤ V1243 90 4 + V1220 90 33› b1274 c1276 e1373 hpr1383 e1408 hSl hxp1420 e1431)) (by rw [(show V1415 90 3 = y1404 from e1426)]; exact ow_68_40 e1426 b1437) (hT.trans (pf_val_inl hb1145)) rfl
                      · skip
                        replace hb1145 := hb1145.trans (if_neg (fun q => q c1413))
                        refine pm_iconst (v := 0) hC dX12_ruleLine_172 ?_
                        replace hT := hT.trans (pf_val_inr hb1145)
                        exact pm_iret hC hR (pm_narZ (by exact ow_68_2)) ⟨0, rfl, ⟨by exact ow_68_3, by exact ow_68_4, by exact ow_68_10, by exact ow_68_41 hm1139 hpr1239 b1246 hpr1383 b1390⟩, hV1391, hF1398, hg1393, hg1394, (fun q => absurd q (by decide)), (fun q => absurd q (by decide)), hT⟩ dX12_ruleLine_173
                    · skip
                      exfalso; exact ow_68_43 c1362
                · skip
                  replace hb1145 := hb1145.trans (if_neg (fun q => q c1269))
                  refine pm_iconst (v := 0) hC dX12_ruleLine_123 ?_
                  replace hT := hT.trans (pf_val_inr hb1145)
                  exact pm_iret hC hR (pm_narZ (by exact ow_68_2)) ⟨0, rfl, ⟨by exact ow_68_3, by exact ow_68_4, by exact ow_68_10, by exact ow_68_32 hm1139 hpr1239 b1246⟩, hV1247, hF1254, hg1249, hg1250, (fun q => absurd q (by decide)), (fun q => absurd q (by decide)), hT⟩ dX12_ruleLine_124
            refine pm_lvsub [2, 1, 0] (lv' := [(0, (3, 90)), (1, (0, 0)), (2, (0, 1))]) rfl ?_
            exact L1146 _ 1 V1101 ⟨by decide, by decide⟩ hV1103 hF1107 e1109 e1110 hg1105 htk1122 (by (have e : V1101 90 2 = y1112 := e1113); rw [e]; exact ow_68_44 hpr48 e1113 hpr1121) hRX (by rw [(show V1101 90 33 = y1 from e1108), (show V1101 90 4 = y1118 from e1119)]; omega) (by rw [(show V1101 90 3 = y1115 from e1116)]; exact ow_68_45 e1116 b1127 c1129) hT rfl
          · skip
            replace hT := hT.trans (if_neg (fun q => q c1129))
            refine pm_iconst (v := 0) hC dX12_ruleLine_104 ?_
            exact pm_iret hC hR (pm_narZ (by exact ow_68_2)) ⟨0, rfl, ⟨by exact ow_68_3, by exact ow_68_4, by exact ow_68_10, by exact ow_68_46 hpr48 hpr1121⟩, hV1103, hF1107, hg1105, htk1122, (fun q => absurd q (by decide)), (fun q => absurd q (by decide)), hT⟩ dX12_ruleLine_105
        · skip
          exfalso; exact ow_68_54 c1099
    · skip
      replace hT := hT.trans (if_neg (fun q => q c26))
      refine pm_iconst (v := 0) hC dX12_ruleLine_19 ?_
      exact pm_iret hC hR (pm_narZ (by exact ow_68_2)) ⟨0, rfl, ⟨by exact ow_68_3, by exact ow_68_4, by exact ow_68_5, by exact ow_68_6⟩, hV0, (pm_fs.rf (cs := [107, 109]) (fs := [2, 3, 4, 5, 32, 33, 37, 39]) (V := V0)), hn_pm_az, hn_pm_tk, (fun q => absurd q (by decide)), (fun q => absurd q (by decide)), hT⟩ dX12_ruleLine_20
set_option maxHeartbeats 4000000 in
set_option maxRecDepth 100000 in
theorem fP_X12_rulesFault  : pm_K 9 yX12_rulesFault cX12_rulesFault 1 (some .int) (fun av V => av = [(3, 90)] ∧ pm_oq pm_qP V) (fun _ V r V' => ∃ y, r = some (0, y) ∧ ((-1) ≤ y ∧ y ≤ 500) ∧ pm_oq pm_qP V' ∧ pm_fs [107, 109] [2, 3, 4, 5, 32, 33, 37, 39] V V' ∧ pm_az V' ∧ pm_tk V' ∧ (y = -1 → pm_RLn V') ∧ (y = -1 → V' 90 33 ≤ 500) ∧ F_X12_rulesFault  V = (y, V')) := by
  refine pm_MT.of (by decide) ⟨Nat.le_refl _, by decide⟩ (fun av V h => by rw [h.1]; exact (by decide : pm_words [(3, 0)] ≤ 1)) ?_
  rintro X av V0 hC - hR ⟨rfl, hV0⟩
  change pm_J X 0 [(0, (3, 90))] [] 118 V0
  have hT := F_X12_rulesFault_eq  V0
  refine pm_aload_n hC 0 (by decide) dX12_rulesFault_0 rfl ?_
  refine pm_iconst (v := 0) hC dX12_rulesFault_1 ?_
  refine pm_putf hC 90 fl_X12_271 rfl rfl rfl (by decide) rfl trivial dX12_rulesFault_2 ?_
  refine pm_aload_n hC 0 (by decide) dX12_rulesFault_5 rfl ?_
  refine pm_iconst (v := 0) hC dX12_rulesFault_6 ?_
  refine pm_putf hC 90 fl_X12_238 rfl rfl rfl (by decide) rfl trivial dX12_rulesFault_7 ?_
  refine pm_aload_n hC 0 (by decide) dX12_rulesFault_10 rfl ?_
  refine pm_iconst (v := 0) hC dX12_rulesFault_11 ?_
  refine pm_putf hC 90 fl_X12_102 rfl rfl rfl (by decide) rfl trivial dX12_rulesFault_12 ?_
  have hV3 := (((hV0.put 90 32 (x := 0) (lo := 0) (hi := 10) rfl ⟨by decide, by decide⟩).put 90 33 (x := 0) (lo := 0) (hi := 600) rfl ⟨by decide, by decide⟩).put 90 2 (x := 0) (lo := 0) (hi := 500) rfl ⟨by decide, by decide⟩)
  have hF4 := ((((pm_fs.rf (cs := [107, 109]) (fs := [2, 3, 4, 5, 32, 33, 37, 39]) (V := V0)).upf 32 0 rfl).upf 33 0 rfl).upf 2 0 rfl)
  obtain ⟨V1, hv2⟩ : ∃ V, V = (pm_up (pm_up (pm_up V0 90 32 0) 90 33 0) 90 2 0) := ⟨_, rfl⟩
  rw [← hv2] at hV3 hF4
  rw [← hv2]
  replace hT := hT.trans (pf_let_eq hv2.symm)
  have e5 : V1 90 32 = 0 := by rw [hv2]; rfl
  have e6 : V1 90 33 = 0 := by rw [hv2]; rfl
  have e7 : V1 90 2 = 0 := by rw [hv2]; rfl
  obtain ⟨y8, e9⟩ : ∃ y, V1 90 1 = y := ⟨_, rfl⟩
  have b10 := hV3.get 90 1 (lo := 0) (hi := 500) (by decide) (by decide) rfl
  rw [e9] at b10
  replace hT := hT.trans (pf_let_eq e9)
  have haz11 : pm_az V1 := by unfold pm_az; rw [e7, e9]; exact ow_68_55 b10
  have hrl12 : pm_RLn V1 := pm_RLn.zero e5 e6
  refine pm_aload_n hC 0 (by decide) dX12_rulesFault_15 rfl ?_
  obtain ⟨y13, e14⟩ : ∃ y, V1 90 3 = y := ⟨_, rfl⟩
  have b15 := hV3.get 90 3 (lo := 0) (hi := 4) (by decide) (by decide) rfl
  rw [e14] at b15
  replace hT := hT.trans (pf_let_eq e14)
  obtain ⟨y16, e17⟩ : ∃ y, V1 90 4 = y := ⟨_, rfl⟩
  have b18 := hV3.get 90 4 (lo := 0) (hi := 500) (by decide) (by decide) rfl
  rw [e17] at b18
  replace hT := hT.trans (pf_let_eq e17)
  refine pm_callV (ci := 12) (as := []) (st := []) hC 90 fP_X12_leads lm_X12_148 li_X12_leads (by decide) (by decide) rfl rfl rfl (by decide) rfl rfl (Nat.le_of_ble_eq_true rfl) ⟨Nat.le_refl _, Or.inl rfl⟩ dX12_rulesFault_16 ⟨rfl, hV3, haz11⟩ (fun r19 V20 hp21 => ?_)
  obtain ⟨rfl, hV22, hF23, hg24, hE25⟩ := hp21
  replace hT := hT.trans (pf_call_eq hE25)
  change pm_J X 19 [(0, (3, 90))] [] 118 V20
  have hF26 := pm_fs.tr hF4 hF23 (by decide) (by decide)
  have e27 : V20 90 32 = 0 := by rw [hF23.2 32 (by decide)]; exact e5
  have e28 : V20 90 33 = 0 := by rw [hF23.2 33 (by decide)]; exact e6
  have e29 : V20 90 1 = y8 := by rw [hF23.2 1 (by decide)]; exact e9
  have hp30 : pm_RLn V20 := (pm_RLn.fr hrl12 (hF23.2 32 (by decide)) (hF23.2 33 (by decide)) (hF23.1 107 (by decide) (by decide)))
  obtain ⟨y31, e32⟩ : ∃ y, V20 90 2 = y := ⟨_, rfl⟩
  have b33 := hV22.get 90 2 (lo := 0) (hi := 500) (by decide) (by decide) rfl
  rw [e32] at b33
  replace hT := hT.trans (pf_let_eq e32)
  obtain ⟨y34, e35⟩ : ∃ y, V20 90 3 = y := ⟨_, rfl⟩
  have b36 := hV22.get 90 3 (lo := 0) (hi := 4) (by decide) (by decide) rfl
  rw [e35] at b36
  replace hT := hT.trans (pf_let_eq e35)
  obtain ⟨y37, e38⟩ : ∃ y, V20 90 4 = y := ⟨_, rfl⟩
  have b39 := hV22.get 90 4 (lo := 0) (hi := 500) (by decide) (by decide) rfl
  rw [e38] at b39
  replace hT := hT.trans (pf_let_eq e38)
  have hpr40 := r_leads_pr hV3 haz11 hE25
  have htk41 : pm_tk V20 := hpr40.2.2.2.1
  obtain ⟨B50, hB51, hT⟩ := pf_loop hT
  have L53 : ∀ (N55 : Nat) (V42 : pm_M), pm_oq pm_qP V42 → pm_fs [107, 109] [2, 3, 4, 5, 32, 33, 37, 39] V0 V42 → V42 90 1 = y8 → pm_RLn V42 → pm_az V42 → pm_tk V42 → (V42 90 33 ≤ V42 90 4) → F_X12_rulesFault  V0 = pf_val ((0 : Int), V0) B50 V42 → (Int.toNat (5 * (500 - V42 90 2) + V42 90 3)) = N55 → pm_J X 19 [(0, (3, 90))] [] 118 V42 := by
    intro N55
    induction N55 using Nat.strongRecOn with
    | _ N55 ih56 =>
    intro V42 hV43 hF44 e45 hp46 hp47 hp48 hx49 hT hm54
    have hb52 := congrFun hB51 V42
    obtain ⟨y57, e58⟩ : ∃ y, V42 90 2 = y := ⟨_, rfl⟩
    have b59 := hV43.get 90 2 (lo := 0) (hi := 500) (by decide) (by decide) rfl
    rw [e58] at b59
    replace hb52 := hb52.trans (pf_let_eq e58)
    obtain ⟨y60, e61⟩ : ∃ y, V42 90 3 = y := ⟨_, rfl⟩
    have b62 := hV43.get 90 3 (lo := 0) (hi := 4) (by decide) (by decide) rfl
    rw [e61] at b62
    replace hb52 := hb52.trans (pf_let_eq e61)
    obtain ⟨y63, e64⟩ : ∃ y, V42 90 4 = y := ⟨_, rfl⟩
    have b65 := hV43.get 90 4 (lo := 0) (hi := 500) (by decide) (by decide) rfl
    rw [e64] at b65
    replace hb52 := hb52.trans (pf_let_eq e64)
    obtain ⟨y66, e67⟩ : ∃ y, V42 90 33 = y := ⟨_, rfl⟩
    have b68 := hV43.get 90 33 (lo := 0) (hi := 600) (by decide) (by decide) rfl
    rw [e67] at b68
    replace hb52 := hb52.trans (pf_let_eq e67)
    have hLn := hx49
    refine pm_aload_n hC 0 (by decide) dX12_rulesFault_19 rfl ?_
    refine pm_getf (v := y60) hC 90 fl_X12_112 rfl rfl (by decide) rfl e61 dX12_rulesFault_20 ?_
    refine pm_if_eq (tgt := 38) hC ⟨by exact ow_68_56 b62, by exact ow_68_57 b62⟩ dX12_rulesFault_23 (by decide) (fun c69 => ?_) (fun c69 => ?_)
    · skip
      replace hb52 := hb52.trans (if_pos c69)
      refine pm_aload_n hC 0 (by decide) dX12_rulesFault_38 rfl ?_
      obtain ⟨y70, e71⟩ : ∃ y, V42 90 32 = y := ⟨_, rfl⟩
      have b72 := hV43.get 90 32 (lo := 0) (hi := 10) (by decide) (by decide) rfl
      rw [e71] at b72
      replace hb52 := hb52.trans (pf_let_eq e71)
      refine pm_getf (v := y70) hC 90 fl_X12_271 rfl rfl (by decide) rfl e71 dX12_rulesFault_39 ?_
      refine pm_if_ne (tgt := 52) hC ⟨by exact ow_68_7 b72, by exact ow_68_8 b72⟩ dX12_rulesFault_42 (by decide) (fun c73 => ?_) (fun c73 => ?_)
      · skip
        replace hb52 := hb52.trans (if_pos c73)
        refine pm_iconst (v := (-1)) hC dX12_rulesFault_52 ?_
        replace hT := hT.trans (pf_val_inr hb52)
        exact pm_iret hC hR pm_nar0 ⟨(-1), rfl, ⟨by exact ow_68_58, by exact ow_68_59⟩, hV43, hF44, hp47, hp48, (fun _ => hp46), (fun _ => by exact ow_68_60 hx49 e64 b65), hT⟩ dX12_rulesFault_53
      · skip
        replace hb52 := hb52.trans (if_neg (fun q => q c73))
        refine pm_aload_n hC 0 (by decide) dX12_rulesFault_45 rfl ?_
        refine pm_getf (v := y63) hC 90 fl_X12_105 rfl rfl (by decide) rfl e64 dX12_rulesFault_46 ?_
        refine pm_goto (tgt := 53) hC dX12_rulesFault_49 (by decide) ?_
        replace hT := hT.trans (pf_val_inr hb52)
        exact pm_iret hC hR pm_nar0 ⟨y63, rfl, ⟨by exact ow_68_61 b65, by exact ow_68_62 b65⟩, hV43, hF44, hp47, hp48, (fun q => by exfalso; exact ow_68_63 b65 q), (fun q => by exfalso; exact ow_68_63 b65 q), hT⟩ dX12_rulesFault_53
    · skip
      replace hb52 := hb52.trans (if_neg c69)
      refine pm_aload_n hC 0 (by decide) dX12_rulesFault_26 rfl ?_
      refine pm_callV (ci := 12) (as := []) (st := []) hC 90 fP_X12_ruleLine lm_X12_289 li_X12_ruleLine (by decide) (by decide) rfl rfl rfl (by decide) rfl rfl (Nat.le_of_ble_eq_true rfl) ⟨Nat.le_refl _, Or.inl rfl⟩ dX12_rulesFault_27 ⟨rfl, hV43, (show V42 90 33 ≤ V42 90 4 by exact ow_68_64 hx49), hp47, hp48, hp46⟩ (fun r74 V75 hp76 => ?_)
      obtain ⟨y77, rfl, b78, hV79, hF80, hg81, hg82, hxp83, hxp84, hE85⟩ := hp76
      replace hb52 := hb52.trans (pf_call_eq hE85)
      change pm_J X 30 [(0, (3, 90))] [(0, y77)] 118 V75
      have hF86 := pm_fs.tr hF44 hF80 (by decide) (by decide)
      have e87 : V75 90 1 = y8 := by rw [hF80.2 1 (by decide)]; exact e45
      obtain ⟨y88, e89⟩ : ∃ y, V75 90 2 = y := ⟨_, rfl⟩
      have b90 := hV79.get 90 2 (lo := 0) (hi := 500) (by decide) (by decide) rfl
      rw [e89] at b90
      replace hb52 := hb52.trans (pf_let_eq e89)
      obtain ⟨y91, e92⟩ : ∃ y, V75 90 3 = y := ⟨_, rfl⟩
      have b93 := hV79.get 90 3 (lo := 0) (hi := 4) (by decide) (by decide) rfl
      rw [e92] at b93
      replace hb52 := hb52.trans (pf_let_eq e92)
      obtain ⟨y94, e95⟩ : ∃ y, V75 90 4 = y := ⟨_, rfl⟩
      have b96 := hV79.get 90 4 (lo := 0) (hi := 500) (by decide) (by decide) rfl
      rw [e95] at b96
      replace hb52 := hb52.trans (pf_let_eq e95)
      obtain ⟨y97, e98⟩ : ∃ y, V75 90 33 = y := ⟨_, rfl⟩
      have b99 := hV79.get 90 33 (lo := 0) (hi := 600) (by decide) (by decide) rfl
      rw [e98] at b99
      replace hb52 := hb52.trans (pf_let_eq e98)
      refine pm_if_ne (tgt := 19) hC ⟨by exact ow_68_27 b78, by exact ow_68_28 b78⟩ dX12_rulesFault_30 (by decide) (fun c100 => ?_) (fun c100 => ?_)
      · skip
        replace hb52 := hb52.trans (if_pos c100)
        refine pm_lvsub [0] (lv' := [(0, (3, 90))]) rfl ?_
        exact ih56 _ (by exact ow_68_65 hm54 e58 b59 e61 b62 c69 b78 c100) V75 hV79 hF86 e87 (hxp83 (by exact ow_68_29 b78 c100)) hg81 hg82 (by rw [(show V75 90 33 = y97 from e98), (show V75 90 4 = y94 from e95)]; exact ow_68_66 b78 hxp84 e95 e98 c100) (hT.trans (pf_val_inl hb52)) rfl
      · skip
        replace hb52 := hb52.trans (if_neg (fun q => q c100))
        refine pm_aload_n hC 0 (by decide) dX12_rulesFault_33 rfl ?_
        refine pm_getf (v := y94) hC 90 fl_X12_105 rfl rfl (by decide) rfl e95 dX12_rulesFault_34 ?_
        replace hT := hT.trans (pf_val_inr hb52)
        exact pm_iret hC hR pm_nar0 ⟨y94, rfl, ⟨by exact ow_68_61 b96, by exact ow_68_62 b96⟩, hV79, hF86, hg81, hg82, (fun q => by exfalso; exact ow_68_63 b96 q), (fun q => by exfalso; exact ow_68_63 b96 q), hT⟩ dX12_rulesFault_37
  refine pm_lvsub [0] (lv' := [(0, (3, 90))]) rfl ?_
  exact L53 _ V20 hV22 hF26 e29 hp30 hg24 htk41 (by rw [(show V20 90 33 = 0 from e28), (show V20 90 4 = y37 from e38)]; exact ow_68_55 b39) hT rfl
