theorem ow_60_0 {a0 : Int} (h0 : (((-2147483648) ≤ (a0 : Int)) ∧ (a0 ≤ (2147483647 : Int)))) : ((-2147483648) ≤ (a0 : Int)) := by omega
theorem ow_60_1 {a0 : Int} (h0 : (((-2147483648) ≤ (a0 : Int)) ∧ (a0 ≤ (2147483647 : Int)))) : (a0 ≤ (2147483647 : Int)) := by omega
theorem ow_60_2 : ((0 = (0 : Int)) ∨ (0 = (1 : Int))) := by omega
theorem ow_60_3 : (0 ≤ (0 : Int)) := by omega
theorem ow_60_4 : (0 ≤ (1 : Int)) := by omega
theorem ow_60_5 {a0 : Int} (h0 : (97 ≤ (a0 : Int))) : ((-2147483648) ≤ (a0 : Int)) := by omega
theorem ow_60_6 : ((1 = (0 : Int)) ∨ (1 = (1 : Int))) := by omega
theorem ow_60_7 : (1 ≤ (1 : Int)) := by omega
theorem ow_60_8 {a0 : Int} (h0 : (48 ≤ (a0 : Int))) : ((-2147483648) ≤ (a0 : Int)) := by omega
theorem ow_60_9 {a0 : Int} (h0 : ((0 ≤ (a0 : Int)) ∧ (a0 ≤ (500 : Int)))) : ((-2147483648) ≤ (a0 : Int)) := by omega
theorem ow_60_10 {a0 : Int} (h0 : ((0 ≤ (a0 : Int)) ∧ (a0 ≤ (500 : Int)))) : (a0 ≤ (2147483647 : Int)) := by omega
theorem ow_60_11 {a0 a1 a2 : Int} (h0 : (a0 ≤ (a1 : Int))) (h1 : (a0 = (a2 : Int))) (h2 : (a1 ≤ (a2 : Int))) (h3 : ¬((a2 = (a1 : Int)))) : ((a2 : Int).toNat < (500 : Nat)) := by omega
theorem ow_60_12 {a0 : Int} (h0 : ((0 ≤ (a0 : Int)) ∧ (a0 ≤ (500 : Int)))) : (0 ≤ (a0 : Int)) := by omega
theorem ow_60_13 {a0 a1 a2 : Int} (h0 : (a0 ≤ (a1 : Int))) (h1 : (a0 = (a2 : Int))) (h2 : (a1 ≤ (a2 : Int))) (h3 : ¬((a2 = (a1 : Int)))) : (a2 < (((500 : Nat) : Int) : Int)) := by omega
theorem ow_60_14 {a0 : Int} (h0 : (((-128) ≤ (a0 : Int)) ∧ (a0 ≤ (127 : Int)))) : ((-2147483648) ≤ (a0 : Int)) := by omega
theorem ow_60_15 {a0 : Int} (h0 : (((-128) ≤ (a0 : Int)) ∧ (a0 ≤ (127 : Int)))) : (a0 ≤ (2147483647 : Int)) := by omega
theorem ow_60_16 {a0 : Int} (h0 : ((0 ≤ (a0 : Int)) ∧ (a0 ≤ (500 : Int)))) : (a0 ≤ (500 : Int)) := by omega
theorem ow_60_17 {a0 : Int} (h0 : ((0 ≤ (a0 : Int)) ∧ (a0 ≤ (1 : Int)))) : ((-2147483648) ≤ (a0 : Int)) := by omega
theorem ow_60_18 {a0 : Int} (h0 : ((0 ≤ (a0 : Int)) ∧ (a0 ≤ (1 : Int)))) : (a0 ≤ (2147483647 : Int)) := by omega
theorem ow_60_19 {a0 : Int} (h0 : (((-128) ≤ (a0 : Int)) ∧ (a0 ≤ (127 : Int)))) : ((-9223372036854775808) ≤ (a0 : Int)) := by omega
theorem ow_60_20 {a0 : Int} (h0 : (((-128) ≤ (a0 : Int)) ∧ (a0 ≤ (127 : Int)))) : (a0 ≤ (9223372036854775807 : Int)) := by omega
theorem ow_60_21 {a0 : Int} (h0 : ((0 ≤ (a0 : Int)) ∧ (a0 ≤ (500 : Int)))) : (0 ≤ ((a0 + 1) : Int)) := by omega
theorem ow_60_22 {a0 a1 a2 : Int} (h0 : (a0 ≤ (a1 : Int))) (h1 : (a0 = (a2 : Int))) (h2 : (a1 ≤ (a2 : Int))) (h3 : ¬((a2 = (a1 : Int)))) : ((a2 + 1) ≤ (500 : Int)) := by omega
theorem ow_60_23 {a0 a1 a2 : Int} (h0 : (a0 ≤ (a1 : Int))) (h1 : (a0 = (a2 : Int))) (h2 : ¬((a2 = (a1 : Int)))) : ((a2 + 1) ≤ (a1 : Int)) := by omega
theorem ow_60_24 {a0 a1 a2 : Int} (h0 : (a0 ≤ (a1 : Int))) (h1 : (a0 = (a2 : Int))) : (a2 ≤ (a1 : Int)) := by omega
theorem ow_60_25 {a0 a1 : Int} (h0 : ((0 ≤ (a0 : Int)) ∧ (a0 ≤ (500 : Int)))) (h1 : (a1 < (a0 : Int))) : ((a1 : Int).toNat < (500 : Nat)) := by omega
theorem ow_60_26 {a0 a1 : Int} (h0 : ((0 ≤ (a0 : Int)) ∧ (a0 ≤ (500 : Int)))) (h1 : (a1 < (a0 : Int))) : (a1 < (((500 : Nat) : Int) : Int)) := by omega
theorem ow_60_27 {a0 a1 : Int} (h0 : (a0 < (a1 : Int))) : (a0 ≤ (a1 : Int)) := by omega
theorem ow_60_28 {a0 : Int} (h0 : (((-9223372036854775808) ≤ (a0 : Int)) ∧ (a0 ≤ (9223372036854775807 : Int)))) : ((-9223372036854775808) ≤ (a0 : Int)) := by omega
theorem ow_60_29 {a0 : Int} (h0 : (((-9223372036854775808) ≤ (a0 : Int)) ∧ (a0 ≤ (9223372036854775807 : Int)))) : (a0 ≤ (9223372036854775807 : Int)) := by omega
theorem ow_60_30 {a0 a1 a2 a3 : Int} (h0 : (a0 ≤ (a1 : Int))) (h1 : (a0 = (a2 : Int))) (h2 : (a1 ≤ (a2 : Int))) (h3 : ¬((a2 = (a1 : Int)))) : ((-2147483648) ≤ (a3 : Int)) := by omega
theorem ow_60_31 {a0 a1 a2 a3 : Int} (h0 : (a0 ≤ (a1 : Int))) (h1 : (a0 = (a2 : Int))) (h2 : (a1 ≤ (a2 : Int))) (h3 : ¬((a2 = (a1 : Int)))) : (a3 ≤ (2147483647 : Int)) := by omega
theorem ow_60_32 {a0 a1 a3 : Int} {k2 : Nat} (h0 : ((0 ≤ (a0 : Int)) ∧ (a0 ≤ (500 : Int)))) (h1 : (((500 - a1) : Int).toNat = (k2 : Nat))) (h2 : (a1 = (a3 : Int))) (h3 : (a3 < (a0 : Int))) : (((500 - (a3 + 1)) : Int).toNat < (k2 : Nat)) := by omega
theorem ow_60_33 {a0 a1 : Int} (h0 : ((0 ≤ (a0 : Int)) ∧ (a0 ≤ (500 : Int)))) (h1 : (a1 < (a0 : Int))) : ((a1 + 1) ≤ (500 : Int)) := by omega
theorem ow_60_34 {a0 a1 : Int} (h0 : (a0 < (a1 : Int))) : ((a0 + 1) ≤ (a1 : Int)) := by omega
theorem ow_60_35 {a0 a1 : Int} (h0 : ((0 ≤ (a0 : Int)) ∧ (a0 ≤ (500 : Int)))) (h1 : ((0 ≤ (a1 : Int)) ∧ (a1 ≤ (500 : Int)))) : ((-2147483648) ≤ ((a1 - a0) : Int)) := by omega
theorem ow_60_36 {a0 a1 : Int} (h0 : ((0 ≤ (a0 : Int)) ∧ (a0 ≤ (500 : Int)))) (h1 : ((0 ≤ (a1 : Int)) ∧ (a1 ≤ (500 : Int)))) : ((a1 - a0) ≤ (2147483647 : Int)) := by omega
theorem ow_60_37 {a0 a1 a2 a3 : Int} (h0 : (a0 ≤ (a1 : Int))) (h1 : (a2 ≤ (a0 : Int))) (h2 : (a2 = (a3 : Int))) (h3 : (8 < ((a3 - a1) : Int))) : (a3 ≤ (a0 : Int)) := by omega
theorem ow_60_38 {a0 a1 a2 : Int} (h0 : (a0 ≤ (a1 : Int))) (h1 : (a2 < (a0 : Int))) : ((a2 - a1) ≤ (2147483647 : Int)) := by omega
theorem ow_60_39 {a0 a1 a2 : Int} (h0 : (a0 ≤ (a1 : Int))) (h1 : (a2 < (a0 : Int))) (h2 : (8 < ((a2 - a1) : Int))) : (a2 ≤ (a0 : Int)) := by omega
theorem ow_60_40 {a0 a1 a2 : Int} {k3 : Nat} (h0 : (a0 ≤ (a1 : Int))) (h1 : (a2 < (a0 : Int))) (h2 : (8 ≤ ((a2 - a1) : Int))) : (((500 - (a2 + 1)) : Int).toNat < (k3 : Nat)) := by omega
theorem ow_60_41 {a0 a1 : Int} (h0 : ((0 ≤ (a0 : Int)) ∧ (a0 ≤ (500 : Int)))) (h1 : (8 ≤ ((a1 - a0) : Int))) : (0 ≤ ((a1 + 1) : Int)) := by omega
theorem ow_60_42 {a0 a1 a2 : Int} (h0 : (a0 ≤ (a1 : Int))) (h1 : (a2 < (a0 : Int))) (h2 : (8 ≤ ((a2 - a1) : Int))) : ((a2 + 1) ≤ (500 : Int)) := by omega
theorem ow_60_43 {a0 a1 a2 : Int} (h0 : (a0 ≤ (a1 : Int))) (h1 : (a2 < (a0 : Int))) (h2 : (8 ≤ ((a2 - a1) : Int))) : ((a2 + 1) ≤ (a0 : Int)) := by omega
theorem ow_60_44 {a0 a1 : Int} (h0 : (a0 = (a1 : Int))) : (a0 ≤ (a1 : Int)) := by omega
theorem ow_60_45 {a0 a1 : Int} (h0 : ((0 ≤ (a0 : Int)) ∧ (a0 ≤ (500 : Int)))) (h1 : (a1 < (a0 : Int))) : (a1 ≤ (500 : Int)) := by omega
theorem ow_60_46 {a0 a1 : Int} (h0 : (((a0 = (1 : Int)) ∧ (99999 < (a1 : Int))) ∨ (((a0 = (0 : Int)) ∧ (a1 = (99999 : Int))) ∨ ((a0 = ((-1) : Int)) ∧ (a1 < (99999 : Int)))))) : ((-2147483648) ≤ (a0 : Int)) := by omega
theorem ow_60_47 {a0 a1 : Int} (h0 : (((a0 = (1 : Int)) ∧ (99999 < (a1 : Int))) ∨ (((a0 = (0 : Int)) ∧ (a1 = (99999 : Int))) ∨ ((a0 = ((-1) : Int)) ∧ (a1 < (99999 : Int)))))) : (a0 ≤ (2147483647 : Int)) := by omega
theorem ow_60_48 {a0 a1 a2 : Int} (h0 : (a0 < (a1 : Int))) (h1 : (a1 ≤ (a2 : Int))) : ((-2147483648) ≤ ((a2 - a0) : Int)) := by omega
theorem ow_60_49 {a0 a1 : Int} (h0 : (a0 < (a1 : Int))) (h1 : (a0 = (a1 : Int))) : (0 ≤ (a0 : Int)) := by omega
theorem ow_60_50 {a0 a1 : Int} (h0 : (a0 ≤ (a1 : Int))) : (a0 ≤ (a1 : Int)) := by omega
theorem ow_60_51 {a0 : Int} (h0 : ((0 ≤ (a0 : Int)) ∧ (a0 ≤ (4 : Int)))) : ((-2147483648) ≤ (a0 : Int)) := by omega
theorem ow_60_52 {a0 : Int} (h0 : ((0 ≤ (a0 : Int)) ∧ (a0 ≤ (4 : Int)))) : (a0 ≤ (2147483647 : Int)) := by omega
theorem ow_60_53 {a0 : Int} : ((0 = (1 : Int)) → (a0 = (1 : Int))) := by omega
theorem ow_60_54 {a0 : Int} (h0 : ((0 ≤ (a0 : Int)) ∧ (a0 ≤ (17 : Int)))) : (0 ≤ (a0 : Int)) := by omega
theorem ow_60_55 {a0 : Int} (h0 : ((0 ≤ (a0 : Int)) ∧ (a0 ≤ (17 : Int)))) : (a0 ≤ (17 : Int)) := by omega
theorem ow_60_56 {a0 a1 a2 : Int} (h0 : (((a0 = (1 : Int)) ∧ (a1 < (a2 : Int))) ∨ (((a0 = (0 : Int)) ∧ (a2 = (a1 : Int))) ∨ ((a0 = ((-1) : Int)) ∧ (a2 < (a1 : Int)))))) : ((-2147483648) ≤ (a0 : Int)) := by omega
theorem ow_60_57 {a0 a1 a2 : Int} (h0 : (((a0 = (1 : Int)) ∧ (a1 < (a2 : Int))) ∨ (((a0 = (0 : Int)) ∧ (a2 = (a1 : Int))) ∨ ((a0 = ((-1) : Int)) ∧ (a2 < (a1 : Int)))))) : (a0 ≤ (2147483647 : Int)) := by omega
theorem ow_60_58 {a0 a1 : Int} (h0 : (a0 = (a1 : Int))) (h1 : (a1 = (1 : Int))) : ((1 = (1 : Int)) → (a0 = (1 : Int))) := by omega
theorem ow_60_59 {a0 : Int} : ((0 = (1 : Int)) → (a0 = (3 : Int))) := by omega
theorem ow_60_60 {a0 : Int} (h0 : ((0 ≤ (a0 : Int)) ∧ (a0 ≤ (255 : Int)))) : ((-2147483648) ≤ (a0 : Int)) := by omega
theorem ow_60_61 {a0 : Int} (h0 : ((0 ≤ (a0 : Int)) ∧ (a0 ≤ (255 : Int)))) : (a0 ≤ (2147483647 : Int)) := by omega
theorem ow_60_62 {a0 : Int} (h0 : ((0 ≤ (a0 : Int)) ∧ (a0 ≤ (255 : Int)))) : ((-9223372036854775808) ≤ (a0 : Int)) := by omega
theorem ow_60_63 {a0 : Int} (h0 : ((0 ≤ (a0 : Int)) ∧ (a0 ≤ (255 : Int)))) : (a0 ≤ (9223372036854775807 : Int)) := by omega
theorem ow_60_64 {a0 a1 : Int} (h0 : (a0 = (a1 : Int))) (h1 : (a1 = (3 : Int))) : ((1 = (1 : Int)) → (a0 = (3 : Int))) := by omega
theorem ow_60_65 {a0 a1 : Int} (h0 : (((a0 = (1 : Int)) ∧ (0 < (a1 : Int))) ∨ (((a0 = (0 : Int)) ∧ (a1 = (0 : Int))) ∨ ((a0 = ((-1) : Int)) ∧ (a1 < (0 : Int)))))) : ((-2147483648) ≤ (a0 : Int)) := by omega
theorem ow_60_66 {a0 a1 : Int} (h0 : (((a0 = (1 : Int)) ∧ (0 < (a1 : Int))) ∨ (((a0 = (0 : Int)) ∧ (a1 = (0 : Int))) ∨ ((a0 = ((-1) : Int)) ∧ (a1 < (0 : Int)))))) : (a0 ≤ (2147483647 : Int)) := by omega
theorem ow_60_67 {a0 a1 : Int} (h0 : ((0 ≤ (a0 : Int)) ∧ ((a0 ≤ (1 : Int)) ∧ ((a0 = (1 : Int)) → (a1 = (1 : Int)))))) : ((-2147483648) ≤ (a0 : Int)) := by omega
theorem ow_60_68 {a0 a1 : Int} (h0 : ((0 ≤ (a0 : Int)) ∧ ((a0 ≤ (1 : Int)) ∧ ((a0 = (1 : Int)) → (a1 = (1 : Int)))))) : (a0 ≤ (2147483647 : Int)) := by omega
noncomputable def F_X12_isLetter (a1 : Int) (V0 : pm_M) : Int × pm_M := (if a1 < 97 then ((0, V0)) else ((if 122 < a1 then ((0, V0)) else ((1, V0)))))
theorem F_X12_isLetter_eq (a1 : Int) (V0 : pm_M) : F_X12_isLetter a1 V0 = (if a1 < 97 then ((0, V0)) else ((if 122 < a1 then ((0, V0)) else ((1, V0))))) := rfl
noncomputable def F_X12_isDigit (a1 : Int) (V0 : pm_M) : Int × pm_M := (if a1 < 48 then ((0, V0)) else ((if 57 < a1 then ((0, V0)) else ((1, V0)))))
theorem F_X12_isDigit_eq (a1 : Int) (V0 : pm_M) : F_X12_isDigit a1 V0 = (if a1 < 48 then ((0, V0)) else ((if 57 < a1 then ((0, V0)) else ((1, V0))))) := rfl
noncomputable def F_X12_isSignByte (a1 : Int) (V0 : pm_M) : Int × pm_M := (if a1 = 43 then ((1, V0)) else ((if a1 = 45 then ((1, V0)) else ((if a1 = 42 then ((1, V0)) else ((if a1 = 60 then ((1, V0)) else ((if a1 = 61 then ((1, V0)) else ((if a1 = 40 then ((1, V0)) else ((if a1 = 41 then ((1, V0)) else ((if ¬ (a1 = 59) then ((0, V0)) else ((1, V0)))))))))))))))))
theorem F_X12_isSignByte_eq (a1 : Int) (V0 : pm_M) : F_X12_isSignByte a1 V0 = (if a1 = 43 then ((1, V0)) else ((if a1 = 45 then ((1, V0)) else ((if a1 = 42 then ((1, V0)) else ((if a1 = 60 then ((1, V0)) else ((if a1 = 61 then ((1, V0)) else ((if a1 = 40 then ((1, V0)) else ((if a1 = 41 then ((1, V0)) else ((if ¬ (a1 = 59) then ((0, V0)) else ((1, V0))))))))))))))))) := rfl
noncomputable def F_X12_leads (V0 : pm_M) : Int × pm_M := pf_let (V0 90 1) fun y1 => pf_let (V0 90 2) fun y4 => pf_val ((0 : Int), V0) (fun (q : pm_M) => match q with | V7 => (pf_let (V7 90 2) fun y19 => (if y1 ≤ y19 then ((if ¬ (y19 = y1) then (pf_let (V7 91 (y19 : Int).toNat) fun y25 => pf_call (F_X12_isLetter y25 (pm_up (pm_up (pm_up V7 90 4 y19) 90 5 0) 90 3 0)) fun y31 _ => (if y31 = 0 then (pf_call (F_X12_isDigit y25 (pm_up (pm_up (pm_up V7 90 4 y19) 90 5 0) 90 3 0)) fun y38 _ => (if y38 = 0 then (pf_call (F_X12_isSignByte y25 (pm_up (pm_up (pm_up V7 90 4 y19) 90 5 0) 90 3 0)) fun y45 _ => (if y45 = 0 then ((.inr (0, (pm_up (pm_up (pm_up (pm_up (pm_up (pm_up V7 90 4 y19) 90 5 0) 90 3 0) 90 3 4) 90 5 y25) 90 2 (y19 + 1))))) else ((.inr (0, (pm_up (pm_up (pm_up (pm_up (pm_up (pm_up V7 90 4 y19) 90 5 0) 90 3 0) 90 3 3) 90 5 y25) 90 2 (y19 + 1))))))) else (pf_let ((pm_up (pm_up (pm_up V7 90 4 y19) 90 5 0) 90 3 0)) fun V49 => pf_val (.inr ((0 : Int), V0)) (fun (q : pm_M) => match q with | V59 => (pf_let (V59 90 2) fun y74 => (if y1 ≤ y74 then ((.inr (.inr (0, (pm_up V59 90 3 2))))) else (pf_let (V59 91 (y74 : Int).toNat) fun y78 => pf_call (F_X12_isDigit y78 V59) fun y84 _ => (if y84 = 0 then ((.inr (.inr (0, (pm_up V59 90 3 2))))) else (pf_let (V59 90 5) fun y88 => pf_let (pm_cmp y88 99999) fun y91 => (if y91 ≤ 0 then (pf_let (pm_w64 (10 * y88)) fun y94 => pf_let (pm_w64 (y94 + y78)) fun y97 => pf_let (pm_w64 (y97 - 48)) fun y100 => (.inl (pm_up (pm_up V59 90 5 y100) 90 2 (y74 + 1)))) else ((.inl (pm_up (pm_up V59 90 5 y88) 90 2 (y74 + 1))))))))))) V49))) else (pf_let ((pm_up (pm_up (pm_up V7 90 4 y19) 90 5 0) 90 3 0)) fun V103 => pf_val (.inr ((0 : Int), V0)) (fun (q : pm_M) => match q with | V113 => (pf_let (V113 90 2) fun y128 => (if y1 ≤ y128 then ((if (y128 - y19) ≤ 8 then ((.inr (.inr (0, (pm_up V113 90 3 1))))) else ((.inr (.inr (0, (pm_up (pm_up V113 90 5 0) 90 3 1))))))) else (pf_let (V113 91 (y128 : Int).toNat) fun y133 => pf_call (F_X12_isLetter y133 V113) fun y139 _ => (if y139 = 0 then ((if (y128 - y19) ≤ 8 then ((.inr (.inr (0, (pm_up V113 90 3 1))))) else ((.inr (.inr (0, (pm_up (pm_up V113 90 5 0) 90 3 1))))))) else ((if 8 ≤ (y128 - y19) then ((.inl (pm_up V113 90 2 (y128 + 1)))) else (pf_let (V113 90 5) fun y145 => pf_let ((pm_lshlV y145 8)) fun y148 => pf_let ((pm_lorV y148 y133)) fun y150 => (.inl (pm_up (pm_up V113 90 5 y150) 90 2 (y128 + 1))))))))))) V103))) else ((.inr (0, (pm_up (pm_up (pm_up V7 90 4 y19) 90 5 0) 90 3 0)))))) else (pf_let (V7 91 (y19 : Int).toNat) fun y153 => (if y153 = 32 then ((.inl (pm_up V7 90 2 (y19 + 1)))) else ((if ¬ (y153 = 10) then ((if ¬ (y19 = y1) then (pf_call (F_X12_isLetter y153 (pm_up (pm_up (pm_up V7 90 4 y19) 90 5 0) 90 3 0)) fun y162 _ => (if y162 = 0 then (pf_call (F_X12_isDigit y153 (pm_up (pm_up (pm_up V7 90 4 y19) 90 5 0) 90 3 0)) fun y169 _ => (if y169 = 0 then (pf_call (F_X12_isSignByte y153 (pm_up (pm_up (pm_up V7 90 4 y19) 90 5 0) 90 3 0)) fun y176 _ => (if y176 = 0 then ((.inr (0, (pm_up (pm_up (pm_up (pm_up (pm_up (pm_up V7 90 4 y19) 90 5 0) 90 3 0) 90 3 4) 90 5 y153) 90 2 (y19 + 1))))) else ((.inr (0, (pm_up (pm_up (pm_up (pm_up (pm_up (pm_up V7 90 4 y19) 90 5 0) 90 3 0) 90 3 3) 90 5 y153) 90 2 (y19 + 1))))))) else (pf_let ((pm_up (pm_up (pm_up V7 90 4 y19) 90 5 0) 90 3 0)) fun V180 => pf_val (.inr ((0 : Int), V0)) (fun (q : pm_M) => match q with | V190 => (pf_let (V190 90 2) fun y205 => (if y1 ≤ y205 then ((.inr (.inr (0, (pm_up V190 90 3 2))))) else (pf_let (V190 91 (y205 : Int).toNat) fun y209 => pf_call (F_X12_isDigit y209 V190) fun y215 _ => (if y215 = 0 then ((.inr (.inr (0, (pm_up V190 90 3 2))))) else (pf_let (V190 90 5) fun y219 => pf_let (pm_cmp y219 99999) fun y222 => (if y222 ≤ 0 then (pf_let (pm_w64 (10 * y219)) fun y225 => pf_let (pm_w64 (y225 + y209)) fun y228 => pf_let (pm_w64 (y228 - 48)) fun y231 => (.inl (pm_up (pm_up V190 90 5 y231) 90 2 (y205 + 1)))) else ((.inl (pm_up (pm_up V190 90 5 y219) 90 2 (y205 + 1))))))))))) V180))) else (pf_let ((pm_up (pm_up (pm_up V7 90 4 y19) 90 5 0) 90 3 0)) fun V234 => pf_val (.inr ((0 : Int), V0)) (fun (q : pm_M) => match q with | V244 => (pf_let (V244 90 2) fun y259 => (if y1 ≤ y259 then ((if (y259 - y19) ≤ 8 then ((.inr (.inr (0, (pm_up V244 90 3 1))))) else ((.inr (.inr (0, (pm_up (pm_up V244 90 5 0) 90 3 1))))))) else (pf_let (V244 91 (y259 : Int).toNat) fun y264 => pf_call (F_X12_isLetter y264 V244) fun y270 _ => (if y270 = 0 then ((if (y259 - y19) ≤ 8 then ((.inr (.inr (0, (pm_up V244 90 3 1))))) else ((.inr (.inr (0, (pm_up (pm_up V244 90 5 0) 90 3 1))))))) else ((if 8 ≤ (y259 - y19) then ((.inl (pm_up V244 90 2 (y259 + 1)))) else (pf_let (V244 90 5) fun y276 => pf_let ((pm_lshlV y276 8)) fun y279 => pf_let ((pm_lorV y279 y264)) fun y281 => (.inl (pm_up (pm_up V244 90 5 y281) 90 2 (y259 + 1))))))))))) V234))) else ((.inr (0, (pm_up (pm_up (pm_up V7 90 4 y19) 90 5 0) 90 3 0)))))) else ((.inl (pm_up V7 90 2 (y19 + 1))))))))))) V0
theorem F_X12_leads_eq (V0 : pm_M) : F_X12_leads V0 = pf_let (V0 90 1) fun y1 => pf_let (V0 90 2) fun y4 => pf_val ((0 : Int), V0) (fun (q : pm_M) => match q with | V7 => (pf_let (V7 90 2) fun y19 => (if y1 ≤ y19 then ((if ¬ (y19 = y1) then (pf_let (V7 91 (y19 : Int).toNat) fun y25 => pf_call (F_X12_isLetter y25 (pm_up (pm_up (pm_up V7 90 4 y19) 90 5 0) 90 3 0)) fun y31 _ => (if y31 = 0 then (pf_call (F_X12_isDigit y25 (pm_up (pm_up (pm_up V7 90 4 y19) 90 5 0) 90 3 0)) fun y38 _ => (if y38 = 0 then (pf_call (F_X12_isSignByte y25 (pm_up (pm_up (pm_up V7 90 4 y19) 90 5 0) 90 3 0)) fun y45 _ => (if y45 = 0 then ((.inr (0, (pm_up (pm_up (pm_up (pm_up (pm_up (pm_up V7 90 4 y19) 90 5 0) 90 3 0) 90 3 4) 90 5 y25) 90 2 (y19 + 1))))) else ((.inr (0, (pm_up (pm_up (pm_up (pm_up (pm_up (pm_up V7 90 4 y19) 90 5 0) 90 3 0) 90 3 3) 90 5 y25) 90 2 (y19 + 1))))))) else (pf_let ((pm_up (pm_up (pm_up V7 90 4 y19) 90 5 0) 90 3 0)) fun V49 => pf_val (.inr ((0 : Int), V0)) (fun (q : pm_M) => match q with | V59 => (pf_let (V59 90 2) fun y74 => (if y1 ≤ y74 then ((.inr (.inr (0, (pm_up V59 90 3 2))))) else (pf_let (V59 91 (y74 : Int).toNat) fun y78 => pf_call (F_X12_isDigit y78 V59) fun y84 _ => (if y84 = 0 then ((.inr (.inr (0, (pm_up V59 90 3 2))))) else (pf_let (V59 90 5) fun y88 => pf_let (pm_cmp y88 99999) fun y91 => (if y91 ≤ 0 then (pf_let (pm_w64 (10 * y88)) fun y94 => pf_let (pm_w64 (y94 + y78)) fun y97 => pf_let (pm_w64 (y97 - 48)) fun y100 => (.inl (pm_up (pm_up V59 90 5 y100) 90 2 (y74 + 1)))) else ((.inl (pm_up (pm_up V59 90 5 y88) 90 2 (y74 + 1))))))))))) V49))) else (pf_let ((pm_up (pm_up (pm_up V7 90 4 y19) 90 5 0) 90 3 0)) fun V103 => pf_val (.inr ((0 : Int), V0)) (fun (q : pm_M) => match q with | V113 => (pf_let (V113 90 2) fun y128 => (if y1 ≤ y128 then ((if (y128 - y19) ≤ 8 then ((.inr (.inr (0, (pm_up V113 90 3 1))))) else ((.inr (.inr (0, (pm_up (pm_up V113 90 5 0) 90 3 1))))))) else (pf_let (V113 91 (y128 : Int).toNat) fun y133 => pf_call (F_X12_isLetter y133 V113) fun y139 _ => (if y139 = 0 then ((if (y128 - y19) ≤ 8 then ((.inr (.inr (0, (pm_up V113 90 3 1))))) else ((.inr (.inr (0, (pm_up (pm_up V113 90 5 0) 90 3 1))))))) else ((if 8 ≤ (y128 - y19) then ((.inl (pm_up V113 90 2 (y128 + 1)))) else (pf_let (V113 90 5) fun y145 => pf_let ((pm_lshlV y145 8)) fun y148 => pf_let ((pm_lorV y148 y133)) fun y150 => (.inl (pm_up (pm_up V113 90 5 y150) 90 2 (y128 + 1))))))))))) V103))) else ((.inr (0, (pm_up (pm_up (pm_up V7 90 4 y19) 90 5 0) 90 3 0)))))) else (pf_let (V7 91 (y19 : Int).toNat) fun y153 => (if y153 = 32 then ((.inl (pm_up V7 90 2 (y19 + 1)))) else ((if ¬ (y153 = 10) then ((if ¬ (y19 = y1) then (pf_call (F_X12_isLetter y153 (pm_up (pm_up (pm_up V7 90 4 y19) 90 5 0) 90 3 0)) fun y162 _ => (if y162 = 0 then (pf_call (F_X12_isDigit y153 (pm_up (pm_up (pm_up V7 90 4 y19) 90 5 0) 90 3 0)) fun y169 _ => (if y169 = 0 then (pf_call (F_X12_isSignByte y153 (pm_up (pm_up (pm_up V7 90 4 y19) 90 5 0) 90 3 0)) fun y176 _ => (if y176 = 0 then ((.inr (0, (pm_up (pm_up (pm_up (pm_up (pm_up (pm_up V7 90 4 y19) 90 5 0) 90 3 0) 90 3 4) 90 5 y153) 90 2 (y19 + 1))))) else ((.inr (0, (pm_up (pm_up (pm_up (pm_up (pm_up (pm_up V7 90 4 y19) 90 5 0) 90 3 0) 90 3 3) 90 5 y153) 90 2 (y19 + 1))))))) else (pf_let ((pm_up (pm_up (pm_up V7 90 4 y19) 90 5 0) 90 3 0)) fun V180 => pf_val (.inr ((0 : Int), V0)) (fun (q : pm_M) => match q with | V190 => (pf_let (V190 90 2) fun y205 => (if y1 ≤ y205 then ((.inr (.inr (0, (pm_up V190 90 3 2))))) else (pf_let (V190 91 (y205 : Int).toNat) fun y209 => pf_call (F_X12_isDigit y209 V190) fun y215 _ => (if y215 = 0 then ((.inr (.inr (0, (pm_up V190 90 3 2))))) else (pf_let (V190 90 5) fun y219 => pf_let (pm_cmp y219 99999) fun y222 => (if y222 ≤ 0 then (pf_let (pm_w64 (10 * y219)) fun y225 => pf_let (pm_w64 (y225 + y209)) fun y228 => pf_let (pm_w64 (y228 - 48)) fun y231 => (.inl (pm_up (pm_up V190 90 5 y231) 90 2 (y205 + 1)))) else ((.inl (pm_up (pm_up V190 90 5 y219) 90 2 (y205 + 1))))))))))) V180))) else (pf_let ((pm_up (pm_up (pm_up V7 90 4 y19) 90 5 0) 90 3 0)) fun V234 => pf_val (.inr ((0 : Int), V0)) (fun (q : pm_M) => match q with | V244 => (pf_let (V244 90 2) fun y259 => (if y1 ≤ y259 then ((if (y259 - y19) ≤ 8 then ((.inr (.inr (0, (pm_up V244 90 3 1))))) else ((.inr (.inr (0, (pm_up (pm_up V244 90 5 0) 90 3 1))))))) else (pf_let (V244 91 (y259 : Int).toNat) fun y264 => pf_call (F_X12_isLetter y264 V244) fun y270 _ => (if y270 = 0 then ((if (y259 - y19) ≤ 8 then ((.inr (.inr (0, (pm_up V244 90 3 1))))) else ((.inr (.inr (0, (pm_up (pm_up V244 90 5 0) 90 3 1))))))) else ((if 8 ≤ (y259 - y19) then ((.inl (pm_up V244 90 2 (y259 + 1)))) else (pf_let (V244 90 5) fun y276 => pf_let ((pm_lshlV y276 8)) fun y279 => pf_let ((pm_lorV y279 y264)) fun y281 => (.inl (pm_up (pm_up V244 90 5 y281) 90 2 (y259 + 1))))))))))) V234))) else ((.inr (0, (pm_up (pm_up (pm_up V7 90 4 y19) 90 5 0) 90 3 0)))))) else ((.inl (pm_up V7 90 2 (y19 + 1))))))))))) V0 := rfl
noncomputable def F_X12_isWord (a1 : Int) (V0 : pm_M) : Int × pm_M := pf_let (V0 90 3) fun y1 => (if ¬ (y1 = 1) then ((0, V0)) else (pf_let (V0 90 5) fun y5 => pf_let (pm_pk (a1 : Int).toNat) fun y8 => pf_let (pm_cmp y5 y8) fun y14 => (if ¬ (y14 = 0) then ((0, V0)) else ((1, V0)))))
theorem F_X12_isWord_eq (a1 : Int) (V0 : pm_M) : F_X12_isWord a1 V0 = pf_let (V0 90 3) fun y1 => (if ¬ (y1 = 1) then ((0, V0)) else (pf_let (V0 90 5) fun y5 => pf_let (pm_pk (a1 : Int).toNat) fun y8 => pf_let (pm_cmp y5 y8) fun y14 => (if ¬ (y14 = 0) then ((0, V0)) else ((1, V0))))) := rfl
noncomputable def F_X12_isSign (a1 : Int) (V0 : pm_M) : Int × pm_M := pf_let (V0 90 3) fun y1 => (if ¬ (y1 = 3) then ((0, V0)) else (pf_let (V0 90 5) fun y5 => pf_let (pm_cmp y5 a1) fun y8 => (if ¬ (y8 = 0) then ((0, V0)) else ((1, V0)))))
theorem F_X12_isSign_eq (a1 : Int) (V0 : pm_M) : F_X12_isSign a1 V0 = pf_let (V0 90 3) fun y1 => (if ¬ (y1 = 3) then ((0, V0)) else (pf_let (V0 90 5) fun y5 => pf_let (pm_cmp y5 a1) fun y8 => (if ¬ (y8 = 0) then ((0, V0)) else ((1, V0))))) := rfl
noncomputable def F_X12_isName (V0 : pm_M) : Int × pm_M := pf_let (V0 90 3) fun y1 => (if ¬ (y1 = 1) then ((0, V0)) else (pf_let (V0 90 5) fun y5 => pf_let (pm_cmp y5 0) fun y8 => (if y8 = 0 then ((0, V0)) else (pf_call (F_X12_isWord 0 V0) fun y14 _ => (if ¬ (y14 = 0) then ((0, V0)) else (pf_call (F_X12_isWord 1 V0) fun y21 _ => (if ¬ (y21 = 0) then ((0, V0)) else (pf_call (F_X12_isWord 2 V0) fun y28 _ => (if ¬ (y28 = 0) then ((0, V0)) else (pf_call (F_X12_isWord 3 V0) fun y35 _ => (if ¬ (y35 = 0) then ((0, V0)) else (pf_call (F_X12_isWord 4 V0) fun y42 _ => (if ¬ (y42 = 0) then ((0, V0)) else (pf_call (F_X12_isWord 5 V0) fun y49 _ => (if ¬ (y49 = 0) then ((0, V0)) else ((1, V0)))))))))))))))))
theorem F_X12_isName_eq (V0 : pm_M) : F_X12_isName V0 = pf_let (V0 90 3) fun y1 => (if ¬ (y1 = 1) then ((0, V0)) else (pf_let (V0 90 5) fun y5 => pf_let (pm_cmp y5 0) fun y8 => (if y8 = 0 then ((0, V0)) else (pf_call (F_X12_isWord 0 V0) fun y14 _ => (if ¬ (y14 = 0) then ((0, V0)) else (pf_call (F_X12_isWord 1 V0) fun y21 _ => (if ¬ (y21 = 0) then ((0, V0)) else (pf_call (F_X12_isWord 2 V0) fun y28 _ => (if ¬ (y28 = 0) then ((0, V0)) else (pf_call (F_X12_isWord 3 V0) fun y35 _ => (if ¬ (y35 = 0) then ((0, V0)) else (pf_call (F_X12_isWord 4 V0) fun y42 _ => (if ¬ (y42 = 0) then ((0, V0)) else (pf_call (F_X12_isWord 5 V0) fun y49 _ => (if ¬ (y49 = 0) then ((0, V0)) else ((1, V0))))))))))))))))) := rfl
set_option maxHeartbeats 4000000 in
set_option maxRecDepth 100000 in
theorem fP_X12_isLetter (a1 : Int) (h0 : (-2147483648) ≤ a1 ∧ a1 ≤ 2147483647) : pm_K 1 yX12_isLetter cX12_isLetter 1 (some .boolean) (fun av V => av = [(0, a1)] ∧ pm_oq pm_qP V) (fun _ V r V' => ∃ y, r = some (0, y) ∧ (0 ≤ y ∧ y ≤ 1) ∧ V = V' ∧ F_X12_isLetter a1 V = (y, V)) := by
  refine pm_MT.of (by decide) ⟨Nat.le_refl _, by decide⟩ (fun av V h => by rw [h.1]; exact (by decide : pm_words [(0, 0)] ≤ 1)) ?_
  rintro X av V0 hC - hR ⟨rfl, hV0⟩
  change pm_J X 0 [(0, (0, a1))] [] 118 V0
  have hT := F_X12_isLetter_eq a1 V0
  refine pm_iload_n hC 0 dX12_isLetter_0 rfl ?_
  refine pm_bipush (v := 97) hC dX12_isLetter_1 (by decide) ?_
  refine pm_icmp_lt (tgt := 16) hC ⟨by exact ow_60_0 h0, by exact ow_60_1 h0⟩ ⟨by decide, by decide⟩ dX12_isLetter_3 (by decide) (fun c1 => ?_) (fun c1 => ?_)
  · skip
    replace hT := hT.trans (if_pos c1)
    refine pm_iconst (v := 0) hC dX12_isLetter_16 ?_
    exact pm_iret hC hR (pm_narZ (by exact ow_60_2)) ⟨0, rfl, ⟨by exact ow_60_3, by exact ow_60_4⟩, rfl, hT⟩ dX12_isLetter_17
  · skip
    replace hT := hT.trans (if_neg (Int.not_lt.mpr c1))
    refine pm_iload_n hC 0 dX12_isLetter_6 rfl ?_
    refine pm_bipush (v := 122) hC dX12_isLetter_7 (by decide) ?_
    refine pm_icmp_gt (tgt := 16) hC ⟨by exact ow_60_5 c1, by exact ow_60_1 h0⟩ ⟨by decide, by decide⟩ dX12_isLetter_9 (by decide) (fun c2 => ?_) (fun c2 => ?_)
    · skip
      replace hT := hT.trans (if_pos c2)
      refine pm_iconst (v := 0) hC dX12_isLetter_16 ?_
      exact pm_iret hC hR (pm_narZ (by exact ow_60_2)) ⟨0, rfl, ⟨by exact ow_60_3, by exact ow_60_4⟩, rfl, hT⟩ dX12_isLetter_17
    · skip
      replace hT := hT.trans (if_neg (Int.not_lt.mpr c2))
      refine pm_iconst (v := 1) hC dX12_isLetter_12 ?_
      refine pm_goto (tgt := 17) hC dX12_isLetter_13 (by decide) ?_
      exact pm_iret hC hR (pm_narZ (by exact ow_60_6)) ⟨1, rfl, ⟨by exact ow_60_4, by exact ow_60_7⟩, rfl, hT⟩ dX12_isLetter_17
set_option maxHeartbeats 4000000 in
set_option maxRecDepth 100000 in
theorem fP_X12_isDigit (a1 : Int) (h0 : (-2147483648) ≤ a1 ∧ a1 ≤ 2147483647) : pm_K 1 yX12_isDigit cX12_isDigit 1 (some .boolean) (fun av V => av = [(0, a1)] ∧ pm_oq pm_qP V) (fun _ V r V' => ∃ y, r = some (0, y) ∧ (0 ≤ y ∧ y ≤ 1) ∧ V = V' ∧ F_X12_isDigit a1 V = (y, V)) := by
  refine pm_MT.of (by decide) ⟨Nat.le_refl _, by decide⟩ (fun av V h => by rw [h.1]; exact (by decide : pm_words [(0, 0)] ≤ 1)) ?_
  rintro X av V0 hC - hR ⟨rfl, hV0⟩
  change pm_J X 0 [(0, (0, a1))] [] 118 V0
  have hT := F_X12_isDigit_eq a1 V0
  refine pm_iload_n hC 0 dX12_isDigit_0 rfl ?_
  refine pm_bipush (v := 48) hC dX12_isDigit_1 (by decide) ?_
  refine pm_icmp_lt (tgt := 16) hC ⟨by exact ow_60_0 h0, by exact ow_60_1 h0⟩ ⟨by decide, by decide⟩ dX12_isDigit_3 (by decide) (fun c1 => ?_) (fun c1 => ?_)
  · skip
    replace hT := hT.trans (if_pos c1)
    refine pm_iconst (v := 0) hC dX12_isDigit_16 ?_
    exact pm_iret hC hR (pm_narZ (by exact ow_60_2)) ⟨0, rfl, ⟨by exact ow_60_3, by exact ow_60_4⟩, rfl, hT⟩ dX12_isDigit_17
  · skip
    replace hT := hT.trans (if_neg (Int.not_lt.mpr c1))
    refine pm_iload_n hC 0 dX12_isDigit_6 rfl ?_
    refine pm_bipush (v := 57) hC dX12_isDigit_7 (by decide) ?_
    refine pm_icmp_gt (tgt := 16) hC ⟨by exact ow_60_8 c1, by exact ow_60_1 h0⟩ ⟨by decide, by decide⟩ dX12_isDigit_9 (by decide) (fun c2 => ?_) (fun c2 => ?_)
    · skip
      replace hT := hT.trans (if_pos c2)
      refine pm_iconst (v := 0) hC dX12_isDigit_16 ?_
      exact pm_iret hC hR (pm_narZ (by exact ow_60_2)) ⟨0, rfl, ⟨by exact ow_60_3, by exact ow_60_4⟩, rfl, hT⟩ dX12_isDigit_17
    · skip
      replace hT := hT.trans (if_neg (Int.not_lt.mpr c2))
      refine pm_iconst (v := 1) hC dX12_isDigit_12 ?_
      refine pm_goto (tgt := 17) hC dX12_isDigit_13 (by decide) ?_
      exact pm_iret hC hR (pm_narZ (by exact ow_60_6)) ⟨1, rfl, ⟨by exact ow_60_4, by exact ow_60_7⟩, rfl, hT⟩ dX12_isDigit_17
set_option maxHeartbeats 4000000 in
set_option maxRecDepth 100000 in
theorem fP_X12_isSignByte (a1 : Int) (h0 : (-2147483648) ≤ a1 ∧ a1 ≤ 2147483647) : pm_K 1 yX12_isSignByte cX12_isSignByte 1 (some .boolean) (fun av V => av = [(0, a1)] ∧ pm_oq pm_qP V) (fun _ V r V' => ∃ y, r = some (0, y) ∧ (0 ≤ y ∧ y ≤ 1) ∧ V = V' ∧ F_X12_isSignByte a1 V = (y, V)) := by
  refine pm_MT.of (by decide) ⟨Nat.le_refl _, by decide⟩ (fun av V h => by rw [h.1]; exact (by decide : pm_words [(0, 0)] ≤ 1)) ?_
  rintro X av V0 hC - hR ⟨rfl, hV0⟩
  change pm_J X 0 [(0, (0, a1))] [] 118 V0
  have hT := F_X12_isSignByte_eq a1 V0
  refine pm_iload_n hC 0 dX12_isSignByte_0 rfl ?_
  refine pm_bipush (v := 43) hC dX12_isSignByte_1 (by decide) ?_
  refine pm_icmp_eq (tgt := 48) hC ⟨by exact ow_60_0 h0, by exact ow_60_1 h0⟩ ⟨by decide, by decide⟩ dX12_isSignByte_3 (by decide) (fun c1 => ?_) (fun c1 => ?_)
  · skip
    replace hT := hT.trans (if_pos c1)
    refine pm_iconst (v := 1) hC dX12_isSignByte_48 ?_
    refine pm_goto (tgt := 53) hC dX12_isSignByte_49 (by decide) ?_
    exact pm_iret hC hR (pm_narZ (by exact ow_60_6)) ⟨1, rfl, ⟨by exact ow_60_4, by exact ow_60_7⟩, rfl, hT⟩ dX12_isSignByte_53
  · skip
    replace hT := hT.trans (if_neg c1)
    refine pm_iload_n hC 0 dX12_isSignByte_6 rfl ?_
    refine pm_bipush (v := 45) hC dX12_isSignByte_7 (by decide) ?_
    refine pm_icmp_eq (tgt := 48) hC ⟨by exact ow_60_0 h0, by exact ow_60_1 h0⟩ ⟨by decide, by decide⟩ dX12_isSignByte_9 (by decide) (fun c2 => ?_) (fun c2 => ?_)
    · skip
      replace hT := hT.trans (if_pos c2)
      refine pm_iconst (v := 1) hC dX12_isSignByte_48 ?_
      refine pm_goto (tgt := 53) hC dX12_isSignByte_49 (by decide) ?_
      exact pm_iret hC hR (pm_narZ (by exact ow_60_6)) ⟨1, rfl, ⟨by exact ow_60_4, by exact ow_60_7⟩, rfl, hT⟩ dX12_isSignByte_53
    · skip
      replace hT := hT.trans (if_neg c2)
      refine pm_iload_n hC 0 dX12_isSignByte_12 rfl ?_
      refine pm_bipush (v := 42) hC dX12_isSignByte_13 (by decide) ?_
      refine pm_icmp_eq (tgt := 48) hC ⟨by exact ow_60_0 h0, by exact ow_60_1 h0⟩ ⟨by decide, by decide⟩ dX12_isSignByte_15 (by decide) (fun c3 => ?_) (fun c3 => ?_)
      · skip
        replace hT := hT.trans (if_pos c3)
        refine pm_iconst (v := 1) hC dX12_isSignByte_48 ?_
        refine pm_goto (tgt := 53) hC dX12_isSignByte_49 (by decide) ?_
        exact pm_iret hC hR (pm_narZ (by exact ow_60_6)) ⟨1, rfl, ⟨by exact ow_60_4, by exact ow_60_7⟩, rfl, hT⟩ dX12_isSignByte_53
      · skip
        replace hT := hT.trans (if_neg c3)
        refine pm_iload_n hC 0 dX12_isSignByte_18 rfl ?_
        refine pm_bipush (v := 60) hC dX12_isSignByte_19 (by decide) ?_
        refine pm_icmp_eq (tgt := 48) hC ⟨by exact ow_60_0 h0, by exact ow_60_1 h0⟩ ⟨by decide, by decide⟩ dX12_isSignByte_21 (by decide) (fun c4 => ?_) (fun c4 => ?_)
        · skip
          replace hT := hT.trans (if_pos c4)
          refine pm_iconst (v := 1) hC dX12_isSignByte_48 ?_
          refine pm_goto (tgt := 53) hC dX12_isSignByte_49 (by decide) ?_
          exact pm_iret hC hR (pm_narZ (by exact ow_60_6)) ⟨1, rfl, ⟨by exact ow_60_4, by exact ow_60_7⟩, rfl, hT⟩ dX12_isSignByte_53
        · skip
          replace hT := hT.trans (if_neg c4)
          refine pm_iload_n hC 0 dX12_isSignByte_24 rfl ?_
          refine pm_bipush (v := 61) hC dX12_isSignByte_25 (by decide) ?_
          refine pm_icmp_eq (tgt := 48) hC ⟨by exact ow_60_0 h0, by exact ow_60_1 h0⟩ ⟨by decide, by decide⟩ dX12_isSignByte_27 (by decide) (fun c5 => ?_) (fun c5 => ?_)
          · skip
            replace hT := hT.trans (if_pos c5)
            refine pm_iconst (v := 1) hC dX12_isSignByte_48 ?_
            refine pm_goto (tgt := 53) hC dX12_isSignByte_49 (by decide) ?_
            exact pm_iret hC hR (pm_narZ (by exact ow_60_6)) ⟨1, rfl, ⟨by exact ow_60_4, by exact ow_60_7⟩, rfl, hT⟩ dX12_isSignByte_53
          · skip
            replace hT := hT.trans (if_neg c5)
            refine pm_iload_n hC 0 dX12_isSignByte_30 rfl ?_
            refine pm_bipush (v := 40) hC dX12_isSignByte_31 (by decide) ?_
            refine pm_icmp_eq (tgt := 48) hC ⟨by exact ow_60_0 h0, by exact ow_60_1 h0⟩ ⟨by decide, by decide⟩ dX12_isSignByte_33 (by decide) (fun c6 => ?_) (fun c6 => ?_)
            · skip
              replace hT := hT.trans (if_pos c6)
              refine pm_iconst (v := 1) hC dX12_isSignByte_48 ?_
              refine pm_goto (tgt := 53) hC dX12_isSignByte_49 (by decide) ?_
              exact pm_iret hC hR (pm_narZ (by exact ow_60_6)) ⟨1, rfl, ⟨by exact ow_60_4, by exact ow_60_7⟩, rfl, hT⟩ dX12_isSignByte_53
            · skip
              replace hT := hT.trans (if_neg c6)
              refine pm_iload_n hC 0 dX12_isSignByte_36 rfl ?_
              refine pm_bipush (v := 41) hC dX12_isSignByte_37 (by decide) ?_
              refine pm_icmp_eq (tgt := 48) hC ⟨by exact ow_60_0 h0, by exact ow_60_1 h0⟩ ⟨by decide, by decide⟩ dX12_isSignByte_39 (by decide) (fun c7 => ?_) (fun c7 => ?_)
              · skip
                replace hT := hT.trans (if_pos c7)
                refine pm_iconst (v := 1) hC dX12_isSignByte_48 ?_
                refine pm_goto (tgt := 53) hC dX12_isSignByte_49 (by decide) ?_
                exact pm_iret hC hR (pm_narZ (by exact ow_60_6)) ⟨1, rfl, ⟨by exact ow_60_4, by exact ow_60_7⟩, rfl, hT⟩ dX12_isSignByte_53
              · skip
                replace hT := hT.trans (if_neg c7)
                refine pm_iload_n hC 0 dX12_isSignByte_42 rfl ?_
                refine pm_bipush (v := 59) hC dX12_isSignByte_43 (by decide) ?_
                refine pm_icmp_ne (tgt := 52) hC ⟨by exact ow_60_0 h0, by exact ow_60_1 h0⟩ ⟨by decide, by decide⟩ dX12_isSignByte_45 (by decide) (fun c8 => ?_) (fun c8 => ?_)
                · skip
                  replace hT := hT.trans (if_pos c8)
                  refine pm_iconst (v := 0) hC dX12_isSignByte_52 ?_
                  exact pm_iret hC hR (pm_narZ (by exact ow_60_2)) ⟨0, rfl, ⟨by exact ow_60_3, by exact ow_60_4⟩, rfl, hT⟩ dX12_isSignByte_53
                · skip
                  replace hT := hT.trans (if_neg (fun q => q c8))
                  refine pm_iconst (v := 1) hC dX12_isSignByte_48 ?_
                  refine pm_goto (tgt := 53) hC dX12_isSignByte_49 (by decide) ?_
                  exact pm_iret hC hR (pm_narZ (by exact ow_60_6)) ⟨1, rfl, ⟨by exact ow_60_4, by exact ow_60_7⟩, rfl, hT⟩ dX12_isSignByte_53
set_option maxHeartbeats 4000000 in
set_option maxRecDepth 100000 in
theorem fP_X12_leads  : pm_K 2 yX12_leads cX12_leads 2 none (fun av V => av = [(3, 90)] ∧ pm_oq pm_qP V ∧ pm_az V) (fun _ V r V' => r = none ∧ pm_oq pm_qP V' ∧ pm_fs [] [2, 3, 4, 5] V V' ∧ pm_az V' ∧ F_X12_leads  V = (0, V')) := by
  refine pm_MT.of (by decide) ⟨Nat.le_refl _, by decide⟩ (fun av V h => by rw [h.1]; exact (by decide : pm_words [(3, 0)] ≤ 2)) ?_
  rintro X av V0 hC - hR ⟨rfl, hV0, hn_pm_az⟩
  change pm_J X 0 [(0, (3, 90))] [] 118 V0
  have hT := F_X12_leads_eq  V0
  obtain ⟨y1, e2⟩ : ∃ y, V0 90 1 = y := ⟨_, rfl⟩
  have b3 := hV0.get 90 1 (lo := 0) (hi := 500) (by decide) (by decide) rfl
  rw [e2] at b3
  replace hT := hT.trans (pf_let_eq e2)
  obtain ⟨y4, e5⟩ : ∃ y, V0 90 2 = y := ⟨_, rfl⟩
  have b6 := hV0.get 90 2 (lo := 0) (hi := 500) (by decide) (by decide) rfl
  rw [e5] at b6
  replace hT := hT.trans (pf_let_eq e5)
  have hsz := hn_pm_az
  unfold pm_az at hsz
  rw [e5, e2] at hsz
  obtain ⟨B12, hB13, hT⟩ := pf_loop hT
  have L15 : ∀ (N17 : Nat) (V7 : pm_M), pm_oq pm_qP V7 → pm_fs [] [2, 3, 4, 5] V0 V7 → V7 90 1 = y1 → (V7 90 2 ≤ y1) → F_X12_leads  V0 = pf_val ((0 : Int), V0) B12 V7 → (Int.toNat (500 - V7 90 2)) = N17 → pm_J X 0 [(0, (3, 90))] [] 118 V7 := by
    intro N17
    induction N17 using Nat.strongRecOn with
    | _ N17 ih18 =>
    intro V7 hV8 hF9 e10 hm11 hT hm16
    have hb14 := congrFun hB13 V7
    refine pm_aload_n hC 0 (by decide) dX12_leads_0 rfl ?_
    obtain ⟨y19, e20⟩ : ∃ y, V7 90 2 = y := ⟨_, rfl⟩
    have b21 := hV8.get 90 2 (lo := 0) (hi := 500) (by decide) (by decide) rfl
    rw [e20] at b21
    replace hb14 := hb14.trans (pf_let_eq e20)
    refine pm_getf (v := y19) hC 90 fl_X12_102 rfl rfl (by decide) rfl e20 dX12_leads_1 ?_
    refine pm_aload_n hC 0 (by decide) dX12_leads_4 rfl ?_
    refine pm_getf (v := y1) hC 90 fl_X12_94 rfl rfl (by decide) rfl e10 dX12_leads_5 ?_
    refine pm_icmp_ge (tgt := 52) hC ⟨by exact ow_60_9 b21, by exact ow_60_10 b21⟩ ⟨by exact ow_60_9 b3, by exact ow_60_10 b3⟩ dX12_leads_8 (by decide) (fun c22 => ?_) (fun c22 => ?_)
    · skip
      replace hb14 := hb14.trans (if_pos c22)
      refine pm_aload_n hC 0 (by decide) dX12_leads_52 rfl ?_
      refine pm_aload_n hC 0 (by decide) dX12_leads_53 rfl ?_
      refine pm_getf (v := y19) hC 90 fl_X12_102 rfl rfl (by decide) rfl e20 dX12_leads_54 ?_
      refine pm_putf hC 90 fl_X12_105 rfl rfl rfl (by decide) rfl trivial dX12_leads_57 ?_
      refine pm_aload_n hC 0 (by decide) dX12_leads_60 rfl ?_
      refine pm_lconst (x := 0) hC dX12_leads_61 rfl ?_
      refine pm_putf hC 90 fl_X12_108 rfl rfl rfl (by decide) rfl trivial dX12_leads_62 ?_
      refine pm_aload_n hC 0 (by decide) dX12_leads_65 rfl ?_
      refine pm_iconst (v := 0) hC dX12_leads_66 ?_
      refine pm_putf hC 90 fl_X12_112 rfl rfl rfl (by decide) rfl trivial dX12_leads_67 ?_
      refine pm_aload_n hC 0 (by decide) dX12_leads_70 rfl ?_
      refine pm_getf (v := y19) hC 90 fl_X12_102 rfl rfl (by decide) rfl e20 dX12_leads_71 ?_
      refine pm_aload_n hC 0 (by decide) dX12_leads_74 rfl ?_
      refine pm_getf (v := y1) hC 90 fl_X12_94 rfl rfl (by decide) rfl e10 dX12_leads_75 ?_
      refine pm_icmp_ne (tgt := 82) hC ⟨by exact ow_60_9 b21, by exact ow_60_10 b21⟩ ⟨by exact ow_60_9 b3, by exact ow_60_10 b3⟩ dX12_leads_78 (by decide) (fun c23 => ?_) (fun c23 => ?_)
      · skip
        replace hb14 := hb14.trans (if_pos c23)
        refine pm_aload_n hC 0 (by decide) dX12_leads_82 rfl ?_
        have e24 : V7 90 0 = 91 := hV8.one 90 0 (by decide) (by decide) rfl
        refine pm_getf (v := 91) hC 90 fl_X12_9 rfl rfl (by decide) rfl e24 dX12_leads_83 ?_
        refine pm_aload_n hC 0 (by decide) dX12_leads_86 rfl ?_
        refine pm_getf (v := y19) hC 90 fl_X12_102 rfl rfl (by decide) rfl e20 dX12_leads_87 ?_
        obtain ⟨y25, e26⟩ : ∃ y, V7 91 (y19 : Int).toNat = y := ⟨_, rfl⟩
        replace hb14 := hb14.trans (pf_let_eq e26)
        have b27 := hV8.get 91 (y19 : Int).toNat (lo := (-128)) (hi := 127) (t := 0) (by decide) (show _ < 500 by exact ow_60_11 hm11 e20 c22 c23) rfl
        rw [e26] at b27
        refine pm_baload (len := 500) (v := y25) hC 91 rfl rfl (by decide) ⟨by exact ow_60_12 b21, by exact ow_60_13 hm11 e20 c22 c23⟩ (by decide) e26 dX12_leads_90 ?_
        refine pm_istore_n (lv' := [(1, (0, y25)), (0, (3, 90))]) hC dX12_leads_91 (by decide) rfl ?_
        refine pm_iload_n hC 0 dX12_leads_92 rfl ?_
        refine pm_callS (as := [(0, y25)]) (st := []) hC (fP_X12_isLetter y25 ⟨by exact ow_60_14 b27, by exact ow_60_15 b27⟩) lm_X12_115 ls_X12_isLetter (by decide) (by decide) rfl rfl (Nat.le_of_ble_eq_true rfl) ⟨Nat.le_refl _, Or.inl rfl⟩ dX12_leads_93 ⟨rfl, (((hV8.put 90 4 (x := y19) (lo := 0) (hi := 500) rfl ⟨by exact ow_60_12 b21, by exact ow_60_16 b21⟩).put 90 5 (x := 0) (lo := (-9223372036854775808)) (hi := 9223372036854775807) rfl ⟨by decide, by decide⟩).put 90 3 (x := 0) (lo := 0) (hi := 4) rfl ⟨by decide, by decide⟩)⟩ (fun r28 V29 hp30 => ?_)
        obtain ⟨y31, rfl, b32, rfl, hE33⟩ := hp30
        replace hb14 := hb14.trans (pf_call_eq hE33)
        change pm_J X 96 [(1, (0, y25)), (0, (3, 90))] [(0, y31)] 118 (pm_up (pm_up (pm_up V7 90 4 y19) 90 5 0) 90 3 0)
        refine pm_if_eq (tgt := 201) hC ⟨by exact ow_60_17 b32, by exact ow_60_18 b32⟩ dX12_leads_96 (by decide) (fun c34 => ?_) (fun c34 => ?_)
        · skip
          replace hb14 := hb14.trans (if_pos c34)
          refine pm_iload_n hC 0 dX12_leads_201 rfl ?_
          refine pm_callS (as := [(0, y25)]) (st := []) hC (fP_X12_isDigit y25 ⟨by exact ow_60_14 b27, by exact ow_60_15 b27⟩) lm_X12_119 ls_X12_isDigit (by decide) (by decide) rfl rfl (Nat.le_of_ble_eq_true rfl) ⟨Nat.le_refl _, Or.inl rfl⟩ dX12_leads_202 ⟨rfl, (((hV8.put 90 4 (x := y19) (lo := 0) (hi := 500) rfl ⟨by exact ow_60_12 b21, by exact ow_60_16 b21⟩).put 90 5 (x := 0) (lo := (-9223372036854775808)) (hi := 9223372036854775807) rfl ⟨by decide, by decide⟩).put 90 3 (x := 0) (lo := 0) (hi := 4) rfl ⟨by decide, by decide⟩)⟩ (fun r35 V36 hp37 => ?_)
          obtain ⟨y38, rfl, b39, rfl, hE40⟩ := hp37
          replace hb14 := hb14.trans (pf_call_eq hE40)
          change pm_J X 205 [(1, (0, y25)), (0, (3, 90))] [(0, y38)] 118 (pm_up (pm_up (pm_up V7 90 4 y19) 90 5 0) 90 3 0)
          refine pm_if_eq (tgt := 300) hC ⟨by exact ow_60_17 b39, by exact ow_60_18 b39⟩ dX12_leads_205 (by decide) (fun c41 => ?_) (fun c41 => ?_)
          · skip
            replace hb14 := hb14.trans (if_pos c41)
            refine pm_aload_n hC 1 (by decide) dX12_leads_300 rfl ?_
            refine pm_iload_n hC 0 dX12_leads_301 rfl ?_
            refine pm_callS (as := [(0, y25)]) (st := [(3, 90)]) hC (fP_X12_isSignByte y25 ⟨by exact ow_60_14 b27, by exact ow_60_15 b27⟩) lm_X12_128 ls_X12_isSignByte (by decide) (by decide) rfl rfl (Nat.le_of_ble_eq_true rfl) ⟨Nat.le_refl _, Or.inl rfl⟩ dX12_leads_302 ⟨rfl, (((hV8.put 90 4 (x := y19) (lo := 0) (hi := 500) rfl ⟨by exact ow_60_12 b21, by exact ow_60_16 b21⟩).put 90 5 (x := 0) (lo := (-9223372036854775808)) (hi := 9223372036854775807) rfl ⟨by decide, by decide⟩).put 90 3 (x := 0) (lo := 0) (hi := 4) rfl ⟨by decide, by decide⟩)⟩ (fun r42 V43 hp44 => ?_)
            obtain ⟨y45, rfl, b46, rfl, hE47⟩ := hp44
            replace hb14 := hb14.trans (pf_call_eq hE47)
            change pm_J X 305 [(1, (0, y25)), (0, (3, 90))] [(0, y45), (3, 90)] 118 (pm_up (pm_up (pm_up V7 90 4 y19) 90 5 0) 90 3 0)
            refine pm_if_eq (tgt := 312) hC ⟨by exact ow_60_17 b46, by exact ow_60_18 b46⟩ dX12_leads_305 (by decide) (fun c48 => ?_) (fun c48 => ?_)
            · skip
              replace hb14 := hb14.trans (if_pos c48)
              refine pm_iconst (v := 4) hC dX12_leads_312 ?_
              refine pm_putf hC 90 fl_X12_112 rfl rfl rfl (by decide) rfl trivial dX12_leads_313 ?_
              refine pm_aload_n hC 1 (by decide) dX12_leads_316 rfl ?_
              refine pm_iload_n hC 0 dX12_leads_317 rfl ?_
              refine pm_i2l hC ⟨by exact ow_60_14 b27, by exact ow_60_15 b27⟩ dX12_leads_318 ?_
              refine pm_putf hC 90 fl_X12_108 rfl rfl rfl (by decide) rfl trivial dX12_leads_319 ?_
              refine pm_aload_n hC 1 (by decide) dX12_leads_322 rfl ?_
              refine pm_dup hC rfl dX12_leads_323 ?_
              refine pm_getf (v := y19) hC 90 fl_X12_102 rfl rfl (by decide) rfl e20 dX12_leads_324 ?_
              refine pm_iconst (v := 1) hC dX12_leads_327 ?_
              refine pm_iadd hC dX12_leads_328 ?_
              refine pm_putf hC 90 fl_X12_102 rfl rfl rfl (by decide) rfl trivial dX12_leads_329 ?_
              replace hT := hT.trans (pf_val_inr hb14)
              exact pm_vret hC hR ⟨rfl, ((((((hV8.put 90 4 (x := y19) (lo := 0) (hi := 500) rfl ⟨by exact ow_60_12 b21, by exact ow_60_16 b21⟩).put 90 5 (x := 0) (lo := (-9223372036854775808)) (hi := 9223372036854775807) rfl ⟨by decide, by decide⟩).put 90 3 (x := 0) (lo := 0) (hi := 4) rfl ⟨by decide, by decide⟩).put 90 3 (x := 4) (lo := 0) (hi := 4) rfl ⟨by decide, by decide⟩).put 90 5 (x := y25) (lo := (-9223372036854775808)) (hi := 9223372036854775807) rfl ⟨by exact ow_60_19 b27, by exact ow_60_20 b27⟩).put 90 2 (x := (y19 + 1)) (lo := 0) (hi := 500) rfl ⟨by exact ow_60_21 b21, by exact ow_60_22 hm11 e20 c22 c23⟩), ((((((hF9.upf 4 y19 rfl).upf 5 0 rfl).upf 3 0 rfl).upf 3 4 rfl).upf 5 y25 rfl).upf 2 (y19 + 1) rfl), (by show (pm_up (pm_up (pm_up (pm_up (pm_up (pm_up V7 90 4 y19) 90 5 0) 90 3 0) 90 3 4) 90 5 y25) 90 2 (y19 + 1)) 90 2 ≤ (pm_up (pm_up (pm_up (pm_up (pm_up (pm_up V7 90 4 y19) 90 5 0) 90 3 0) 90 3 4) 90 5 y25) 90 2 (y19 + 1)) 90 1; rw [(show (pm_up (pm_up (pm_up (pm_up (pm_up (pm_up V7 90 4 y19) 90 5 0) 90 3 0) 90 3 4) 90 5 y25) 90 2 (y19 + 1)) 90 2 = (y19 + 1) from rfl), (show (pm_up (pm_up (pm_up (pm_up (pm_up (pm_up V7 90 4 y19) 90 5 0) 90 3 0) 90 3 4) 90 5 y25) 90 2 (y19 + 1)) 90 1 = y1 from e10)]; exact ow_60_23 hm11 e20 c23), hT⟩ dX12_leads_332
            · skip
              replace hb14 := hb14.trans (if_neg c48)
              refine pm_iconst (v := 3) hC dX12_leads_308 ?_
              refine pm_goto (tgt := 313) hC dX12_leads_309 (by decide) ?_
              refine pm_putf hC 90 fl_X12_112 rfl rfl rfl (by decide) rfl trivial dX12_leads_313 ?_
              refine pm_aload_n hC 1 (by decide) dX12_leads_316 rfl ?_
              refine pm_iload_n hC 0 dX12_leads_317 rfl ?_
              refine pm_i2l hC ⟨by exact ow_60_14 b27, by exact ow_60_15 b27⟩ dX12_leads_318 ?_
              refine pm_putf hC 90 fl_X12_108 rfl rfl rfl (by decide) rfl trivial dX12_leads_319 ?_
              refine pm_aload_n hC 1 (by decide) dX12_leads_322 rfl ?_
              refine pm_dup hC rfl dX12_leads_323 ?_
              refine pm_getf (v := y19) hC 90 fl_X12_102 rfl rfl (by decide) rfl e20 dX12_leads_324 ?_
              refine pm_iconst (v := 1) hC dX12_leads_327 ?_
              refine pm_iadd hC dX12_leads_328 ?_
              refine pm_putf hC 90 fl_X12_102 rfl rfl rfl (by decide) rfl trivial dX12_leads_329 ?_
              replace hT := hT.trans (pf_val_inr hb14)
              exact pm_vret hC hR ⟨rfl, ((((((hV8.put 90 4 (x := y19) (lo := 0) (hi := 500) rfl ⟨by exact ow_60_12 b21, by exact ow_60_16 b21⟩).put 90 5 (x := 0) (lo := (-9223372036854775808)) (hi := 9223372036854775807) rfl ⟨by decide, by decide⟩).put 90 3 (x := 0) (lo := 0) (hi := 4) rfl ⟨by decide, by decide⟩).put 90 3 (x := 3) (lo := 0) (hi := 4) rfl ⟨by decide, by decide⟩).put 90 5 (x := y25) (lo := (-9223372036854775808)) (hi := 9223372036854775807) rfl ⟨by exact ow_60_19 b27, by exact ow_60_20 b27⟩).put 90 2 (x := (y19 + 1)) (lo := 0) (hi := 500) rfl ⟨by exact ow_60_21 b21, by exact ow_60_22 hm11 e20 c22 c23⟩), ((((((hF9.upf 4 y19 rfl).upf 5 0 rfl).upf 3 0 rfl).upf 3 3 rfl).upf 5 y25 rfl).upf 2 (y19 + 1) rfl), (by show (pm_up (pm_up (pm_up (pm_up (pm_up (pm_up V7 90 4 y19) 90 5 0) 90 3 0) 90 3 3) 90 5 y25) 90 2 (y19 + 1)) 90 2 ≤ (pm_up (pm_up (pm_up (pm_up (pm_up (pm_up V7 90 4 y19) 90 5 0) 90 3 0) 90 3 3) 90 5 y25) 90 2 (y19 + 1)) 90 1; rw [(show (pm_up (pm_up (pm_up (pm_up (pm_up (pm_up V7 90 4 y19) 90 5 0) 90 3 0) 90 3 3) 90 5 y25) 90 2 (y19 + 1)) 90 2 = (y19 + 1) from rfl), (show (pm_up (pm_up (pm_up (pm_up (pm_up (pm_up V7 90 4 y19) 90 5 0) 90 3 0) 90 3 3) 90 5 y25) 90 2 (y19 + 1)) 90 1 = y1 from e10)]; exact ow_60_23 hm11 e20 c23), hT⟩ dX12_leads_332
          · skip
            replace hb14 := hb14.trans (if_neg c41)
            have hV51 := (((hV8.put 90 4 (x := y19) (lo := 0) (hi := 500) rfl ⟨by exact ow_60_12 b21, by exact ow_60_16 b21⟩).put 90 5 (x := 0) (lo := (-9223372036854775808)) (hi := 9223372036854775807) rfl ⟨by decide, by decide⟩).put 90 3 (x := 0) (lo := 0) (hi := 4) rfl ⟨by decide, by decide⟩)
            have hF52 := (((hF9.upf 4 y19 rfl).upf 5 0 rfl).upf 3 0 rfl)
            obtain ⟨V49, hv50⟩ : ∃ V, V = (pm_up (pm_up (pm_up V7 90 4 y19) 90 5 0) 90 3 0) := ⟨_, rfl⟩
            rw [← hv50] at hV51 hF52
            rw [← hv50]
            replace hb14 := hb14.trans (pf_let_eq hv50.symm)
            have e53 : V49 90 1 = y1 := by rw [hv50]; exact e10
            have e54 : V49 90 2 = y19 := by rw [hv50]; exact e20
            have e55 : V49 90 0 = 91 := by rw [hv50]; exact e24
            have e56 : V49 90 4 = y19 := by rw [hv50]; rfl
            have e57 : V49 90 5 = 0 := by rw [hv50]; rfl
            have e58 : V49 90 3 = 0 := by rw [hv50]; rfl
            obtain ⟨B67, hB68, hb14⟩ := pf_loop hb14
            have L70 : ∀ (N72 : Nat) (V59 : pm_M), pm_oq pm_qP V59 → pm_fs [] [2, 3, 4, 5] V0 V59 → V59 90 1 = y1 → V59 90 0 = 91 → V59 90 4 = y19 → V59 90 3 = 0 → (V59 90 2 ≤ y1) → B12 V7 = pf_val (.inr ((0 : Int), V0)) B67 V59 → (Int.toNat (500 - V59 90 2)) = N72 → pm_J X 208 [(0, (3, 90)), (1, (0, y25))] [] 118 V59 := by
              intro N72
              induction N72 using Nat.strongRecOn with
              | _ N72 ih73 =>
              intro V59 hV60 hF61 e62 e63 e64 e65 hm66 hb14 hm71
              have hb69 := congrFun hB68 V59
              refine pm_aload_n hC 0 (by decide) dX12_leads_208 rfl ?_
              obtain ⟨y74, e75⟩ : ∃ y, V59 90 2 = y := ⟨_, rfl⟩
              have b76 := hV60.get 90 2 (lo := 0) (hi := 500) (by decide) (by decide) rfl
              rw [e75] at b76
              replace hb69 := hb69.trans (pf_let_eq e75)
              refine pm_getf (v := y74) hC 90 fl_X12_102 rfl rfl (by decide) rfl e75 dX12_leads_209 ?_
              refine pm_aload_n hC 0 (by decide) dX12_leads_212 rfl ?_
              refine pm_getf (v := y1) hC 90 fl_X12_94 rfl rfl (by decide) rfl e62 dX12_leads_213 ?_
              refine pm_icmp_ge (tgt := 292) hC ⟨by exact ow_60_9 b76, by exact ow_60_10 b76⟩ ⟨by exact ow_60_9 b3, by exact ow_60_10 b3⟩ dX12_leads_216 (by decide) (fun c77 => ?_) (fun c77 => ?_)
              · skip
                replace hb69 := hb69.trans (if_pos c77)
                refine pm_aload_n hC 0 (by decide) dX12_leads_292 rfl ?_
                refine pm_iconst (v := 2) hC dX12_leads_293 ?_
                refine pm_putf hC 90 fl_X12_112 rfl rfl rfl (by decide) rfl trivial dX12_leads_294 ?_
                refine pm_goto (tgt := 332) hC dX12_leads_297 (by decide) ?_
                replace hb14 := hb14.trans (pf_val_inr hb69)
                replace hT := hT.trans (pf_val_inr hb14)
                exact pm_vret hC hR ⟨rfl, (hV60.put 90 3 (x := 2) (lo := 0) (hi := 4) rfl ⟨by decide, by decide⟩), (hF61.upf 3 2 rfl), (by show (pm_up V59 90 3 2) 90 2 ≤ (pm_up V59 90 3 2) 90 1; rw [(show (pm_up V59 90 3 2) 90 2 = y74 from e75), (show (pm_up V59 90 3 2) 90 1 = y1 from e62)]; exact ow_60_24 hm66 e75), hT⟩ dX12_leads_332
              · skip
                replace hb69 := hb69.trans (if_neg (Int.not_le.mpr c77))
                refine pm_aload_n hC 0 (by decide) dX12_leads_219 rfl ?_
                refine pm_getf (v := 91) hC 90 fl_X12_9 rfl rfl (by decide) rfl e63 dX12_leads_220 ?_
                refine pm_aload_n hC 0 (by decide) dX12_leads_223 rfl ?_
                refine pm_getf (v := y74) hC 90 fl_X12_102 rfl rfl (by decide) rfl e75 dX12_leads_224 ?_
                obtain ⟨y78, e79⟩ : ∃ y, V59 91 (y74 : Int).toNat = y := ⟨_, rfl⟩
                replace hb69 := hb69.trans (pf_let_eq e79)
                have b80 := hV60.get 91 (y74 : Int).toNat (lo := (-128)) (hi := 127) (t := 0) (by decide) (show _ < 500 by exact ow_60_25 b3 c77) rfl
                rw [e79] at b80
                refine pm_baload (len := 500) (v := y78) hC 91 rfl rfl (by decide) ⟨by exact ow_60_12 b76, by exact ow_60_26 b3 c77⟩ (by decide) e79 dX12_leads_227 ?_
                refine pm_callS (as := [(0, y78)]) (st := []) hC (fP_X12_isDigit y78 ⟨by exact ow_60_14 b80, by exact ow_60_15 b80⟩) lm_X12_119 ls_X12_isDigit (by decide) (by decide) rfl rfl (Nat.le_of_ble_eq_true rfl) ⟨Nat.le_refl _, Or.inl rfl⟩ dX12_leads_228 ⟨rfl, hV60⟩ (fun r81 V82 hp83 => ?_)
                obtain ⟨y84, rfl, b85, rfl, hE86⟩ := hp83
                replace hb69 := hb69.trans (pf_call_eq hE86)
                change pm_J X 231 [(0, (3, 90)), (1, (0, y25))] [(0, y84)] 118 V59
                refine pm_if_eq (tgt := 292) hC ⟨by exact ow_60_17 b85, by exact ow_60_18 b85⟩ dX12_leads_231 (by decide) (fun c87 => ?_) (fun c87 => ?_)
                · skip
                  replace hb69 := hb69.trans (if_pos c87)
                  refine pm_aload_n hC 0 (by decide) dX12_leads_292 rfl ?_
                  refine pm_iconst (v := 2) hC dX12_leads_293 ?_
                  refine pm_putf hC 90 fl_X12_112 rfl rfl rfl (by decide) rfl trivial dX12_leads_294 ?_
                  refine pm_goto (tgt := 332) hC dX12_leads_297 (by decide) ?_
                  replace hb14 := hb14.trans (pf_val_inr hb69)
                  replace hT := hT.trans (pf_val_inr hb14)
                  exact pm_vret hC hR ⟨rfl, (hV60.put 90 3 (x := 2) (lo := 0) (hi := 4) rfl ⟨by decide, by decide⟩), (hF61.upf 3 2 rfl), (by show (pm_up V59 90 3 2) 90 2 ≤ (pm_up V59 90 3 2) 90 1; rw [(show (pm_up V59 90 3 2) 90 2 = y74 from e75), (show (pm_up V59 90 3 2) 90 1 = y1 from e62)]; exact ow_60_27 c77), hT⟩ dX12_leads_332
                · skip
                  replace hb69 := hb69.trans (if_neg c87)
                  refine pm_aload_n hC 0 (by decide) dX12_leads_234 rfl ?_
                  refine pm_aload_n hC 0 (by decide) dX12_leads_235 rfl ?_
                  obtain ⟨y88, e89⟩ : ∃ y, V59 90 5 = y := ⟨_, rfl⟩
                  have b90 := hV60.get 90 5 (lo := (-9223372036854775808)) (hi := 9223372036854775807) (by decide) (by decide) rfl
                  rw [e89] at b90
                  replace hb69 := hb69.trans (pf_let_eq e89)
                  refine pm_getf (v := y88) hC 90 fl_X12_108 rfl rfl (by decide) rfl e89 dX12_leads_236 ?_
                  refine pm_ldc2 (v := 99999) hC 6086 dX12_leads_239 (by decide +kernel) ?_
                  refine pm_lcmp hC ⟨by exact ow_60_28 b90, by exact ow_60_29 b90⟩ ⟨by decide, by decide⟩ dX12_leads_242 (fun y91 b92 => ?_)
                  replace hb69 := hb69.trans (pf_let_eq (pm_cmp_u b92))
                  refine pm_if_le (tgt := 253) hC ⟨by exact ow_60_30 hm11 e20 c22 c23, by exact ow_60_31 hm11 e20 c22 c23⟩ dX12_leads_243 (by decide) (fun c93 => ?_) (fun c93 => ?_)
                  · skip
                    replace hb69 := hb69.trans (if_pos c93)
                    refine pm_ldc2 (v := 10) hC 6087 dX12_leads_253 (by decide +kernel) ?_
                    refine pm_aload_n hC 0 (by decide) dX12_leads_256 rfl ?_
                    refine pm_getf (v := y88) hC 90 fl_X12_108 rfl rfl (by decide) rfl e89 dX12_leads_257 ?_
                    refine pm_lmul hC dX12_leads_260 ?_
                    refine pm_wrL hC (fun y94 hw96 b95 => ?_)
                    replace hb69 := hb69.trans (pf_let_eq hw96)
                    have b95 := And.intro b95.1 b95.2
                    refine pm_aload_n hC 0 (by decide) dX12_leads_261 rfl ?_
                    refine pm_getf (v := 91) hC 90 fl_X12_9 rfl rfl (by decide) rfl e63 dX12_leads_262 ?_
                    refine pm_aload_n hC 0 (by decide) dX12_leads_265 rfl ?_
                    refine pm_getf (v := y74) hC 90 fl_X12_102 rfl rfl (by decide) rfl e75 dX12_leads_266 ?_
                    refine pm_baload (len := 500) (v := y78) hC 91 rfl rfl (by decide) ⟨by exact ow_60_12 b76, by exact ow_60_26 b3 c77⟩ (by decide) e79 dX12_leads_269 ?_
                    refine pm_i2l hC ⟨by exact ow_60_14 b80, by exact ow_60_15 b80⟩ dX12_leads_270 ?_
                    refine pm_ladd hC dX12_leads_271 ?_
                    refine pm_wrL hC (fun y97 hw99 b98 => ?_)
                    replace hb69 := hb69.trans (pf_let_eq hw99)
                    have b98 := And.intro b98.1 b98.2
                    refine pm_ldc2 (v := 48) hC 6088 dX12_leads_272 (by decide +kernel) ?_
                    refine pm_lsub hC dX12_leads_275 ?_
                    refine pm_wrL hC (fun y100 hw102 b101 => ?_)
                    replace hb69 := hb69.trans (pf_let_eq hw102)
                    have b101 := And.intro b101.1 b101.2
                    refine pm_putf hC 90 fl_X12_108 rfl rfl rfl (by decide) rfl trivial dX12_leads_276 ?_
                    refine pm_aload_n hC 0 (by decide) dX12_leads_279 rfl ?_
                    refine pm_dup hC rfl dX12_leads_280 ?_
                    refine pm_getf (v := y74) hC 90 fl_X12_102 rfl rfl (by decide) rfl e75 dX12_leads_281 ?_
                    refine pm_iconst (v := 1) hC dX12_leads_284 ?_
                    refine pm_iadd hC dX12_leads_285 ?_
                    refine pm_putf hC 90 fl_X12_102 rfl rfl rfl (by decide) rfl trivial dX12_leads_286 ?_
                    refine pm_goto (tgt := 208) hC dX12_leads_289 (by decide) ?_
                    refine pm_lvsub [0, 1] (lv' := [(0, (3, 90)), (1, (0, y25))]) rfl ?_
                    exact ih73 _ (by show Int.toNat (500 - (y74 + 1)) < _; exact ow_60_32 b3 hm71 e75 c77) (pm_up (pm_up V59 90 5 y100) 90 2 (y74 + 1)) ((hV60.put 90 5 (x := y100) (lo := (-9223372036854775808)) (hi := 9223372036854775807) rfl ⟨by exact ow_60_28 b101, by exact ow_60_29 b101⟩).put 90 2 (x := (y74 + 1)) (lo := 0) (hi := 500) rfl ⟨by exact ow_60_21 b76, by exact ow_60_33 b3 c77⟩) ((hF61.upf 5 y100 rfl).upf 2 (y74 + 1) rfl) e62 e63 e64 e65 (show (y74 + 1) ≤ y1 by exact ow_60_34 c77) (hb14.trans (pf_val_inl hb69)) rfl
                  · skip
                    replace hb69 := hb69.trans (if_neg (Int.not_le.mpr c93))
                    refine pm_aload_n hC 0 (by decide) dX12_leads_246 rfl ?_
                    refine pm_getf (v := y88) hC 90 fl_X12_108 rfl rfl (by decide) rfl e89 dX12_leads_247 ?_
                    refine pm_goto (tgt := 276) hC dX12_leads_250 (by decide) ?_
                    refine pm_putf hC 90 fl_X12_108 rfl rfl rfl (by decide) rfl trivial dX12_leads_276 ?_
                    refine pm_aload_n hC 0 (by decide) dX12_leads_279 rfl ?_
                    refine pm_dup hC rfl dX12_leads_280 ?_
                    refine pm_getf (v := y74) hC 90 fl_X12_102 rfl rfl (by decide) rfl e75 dX12_leads_281 ?_
                    refine pm_iconst (v := 1) hC dX12_leads_284 ?_
                    refine pm_iadd hC dX12_leads_285 ?_
                    refine pm_putf hC 90 fl_X12_102 rfl rfl rfl (by decide) rfl trivial dX12_leads_286 ?_
                    refine pm_goto (tgt := 208) hC dX12_leads_289 (by decide) ?_
                    refine pm_lvsub [0, 1] (lv' := [(0, (3, 90)), (1, (0, y25))]) rfl ?_
                    exact ih73 _ (by show Int.toNat (500 - (y74 + 1)) < _; exact ow_60_32 b3 hm71 e75 c77) (pm_up (pm_up V59 90 5 y88) 90 2 (y74 + 1)) ((hV60.put 90 5 (x := y88) (lo := (-9223372036854775808)) (hi := 9223372036854775807) rfl ⟨by exact ow_60_28 b90, by exact ow_60_29 b90⟩).put 90 2 (x := (y74 + 1)) (lo := 0) (hi := 500) rfl ⟨by exact ow_60_21 b76, by exact ow_60_33 b3 c77⟩) ((hF61.upf 5 y88 rfl).upf 2 (y74 + 1) rfl) e62 e63 e64 e65 (show (y74 + 1) ≤ y1 by exact ow_60_34 c77) (hb14.trans (pf_val_inl hb69)) rfl
            refine pm_lvsub [1, 0] (lv' := [(0, (3, 90)), (1, (0, y25))]) rfl ?_
            exact L70 _ V49 hV51 hF52 e53 e55 e56 e58 (by (have e : V49 90 2 = y19 := e54); rw [e]; exact ow_60_24 hm11 e20) hb14 rfl
        · skip
          replace hb14 := hb14.trans (if_neg c34)
          have hV105 := (((hV8.put 90 4 (x := y19) (lo := 0) (hi := 500) rfl ⟨by exact ow_60_12 b21, by exact ow_60_16 b21⟩).put 90 5 (x := 0) (lo := (-9223372036854775808)) (hi := 9223372036854775807) rfl ⟨by decide, by decide⟩).put 90 3 (x := 0) (lo := 0) (hi := 4) rfl ⟨by decide, by decide⟩)
          have hF106 := (((hF9.upf 4 y19 rfl).upf 5 0 rfl).upf 3 0 rfl)
          obtain ⟨V103, hv104⟩ : ∃ V, V = (pm_up (pm_up (pm_up V7 90 4 y19) 90 5 0) 90 3 0) := ⟨_, rfl⟩
          rw [← hv104] at hV105 hF106
          rw [← hv104]
          replace hb14 := hb14.trans (pf_let_eq hv104.symm)
          have e107 : V103 90 1 = y1 := by rw [hv104]; exact e10
          have e108 : V103 90 2 = y19 := by rw [hv104]; exact e20
          have e109 : V103 90 0 = 91 := by rw [hv104]; exact e24
          have e110 : V103 90 4 = y19 := by rw [hv104]; rfl
          have e111 : V103 90 5 = 0 := by rw [hv104]; rfl
          have e112 : V103 90 3 = 0 := by rw [hv104]; rfl
          obtain ⟨B121, hB122, hb14⟩ := pf_loop hb14
          have L124 : ∀ (N126 : Nat) (V113 : pm_M), pm_oq pm_qP V113 → pm_fs [] [2, 3, 4, 5] V0 V113 → V113 90 1 = y1 → V113 90 0 = 91 → V113 90 4 = y19 → V113 90 3 = 0 → (V113 90 2 ≤ y1) → B12 V7 = pf_val (.inr ((0 : Int), V0)) B121 V113 → (Int.toNat (500 - V113 90 2)) = N126 → pm_J X 99 [(0, (3, 90)), (1, (0, y25))] [] 118 V113 := by
            intro N126
            induction N126 using Nat.strongRecOn with
            | _ N126 ih127 =>
            intro V113 hV114 hF115 e116 e117 e118 e119 hm120 hb14 hm125
            have hb123 := congrFun hB122 V113
            refine pm_aload_n hC 0 (by decide) dX12_leads_99 rfl ?_
            obtain ⟨y128, e129⟩ : ∃ y, V113 90 2 = y := ⟨_, rfl⟩
            have b130 := hV114.get 90 2 (lo := 0) (hi := 500) (by decide) (by decide) rfl
            rw [e129] at b130
            replace hb123 := hb123.trans (pf_let_eq e129)
            refine pm_getf (v := y128) hC 90 fl_X12_102 rfl rfl (by decide) rfl e129 dX12_leads_100 ?_
            refine pm_aload_n hC 0 (by decide) dX12_leads_103 rfl ?_
            refine pm_getf (v := y1) hC 90 fl_X12_94 rfl rfl (by decide) rfl e116 dX12_leads_104 ?_
            refine pm_icmp_ge (tgt := 174) hC ⟨by exact ow_60_9 b130, by exact ow_60_10 b130⟩ ⟨by exact ow_60_9 b3, by exact ow_60_10 b3⟩ dX12_leads_107 (by decide) (fun c131 => ?_) (fun c131 => ?_)
            · skip
              replace hb123 := hb123.trans (if_pos c131)
              refine pm_aload_n hC 0 (by decide) dX12_leads_174 rfl ?_
              refine pm_getf (v := y128) hC 90 fl_X12_102 rfl rfl (by decide) rfl e129 dX12_leads_175 ?_
              refine pm_aload_n hC 0 (by decide) dX12_leads_178 rfl ?_
              refine pm_getf (v := y19) hC 90 fl_X12_105 rfl rfl (by decide) rfl e118 dX12_leads_179 ?_
              refine pm_isub hC dX12_leads_182 ?_
              refine pm_bipush (v := 8) hC dX12_leads_183 (by decide) ?_
              refine pm_icmp_le (tgt := 193) hC ⟨by exact ow_60_35 b21 b130, by exact ow_60_36 b21 b130⟩ ⟨by decide, by decide⟩ dX12_leads_185 (by decide) (fun c132 => ?_) (fun c132 => ?_)
              · skip
                replace hb123 := hb123.trans (if_pos c132)
                refine pm_aload_n hC 0 (by decide) dX12_leads_193 rfl ?_
                refine pm_iconst (v := 1) hC dX12_leads_194 ?_
                refine pm_putf hC 90 fl_X12_112 rfl rfl rfl (by decide) rfl trivial dX12_leads_195 ?_
                refine pm_goto (tgt := 332) hC dX12_leads_198 (by decide) ?_
                replace hb14 := hb14.trans (pf_val_inr hb123)
                replace hT := hT.trans (pf_val_inr hb14)
                exact pm_vret hC hR ⟨rfl, (hV114.put 90 3 (x := 1) (lo := 0) (hi := 4) rfl ⟨by decide, by decide⟩), (hF115.upf 3 1 rfl), (by show (pm_up V113 90 3 1) 90 2 ≤ (pm_up V113 90 3 1) 90 1; rw [(show (pm_up V113 90 3 1) 90 2 = y128 from e129), (show (pm_up V113 90 3 1) 90 1 = y1 from e116)]; exact ow_60_24 hm120 e129), hT⟩ dX12_leads_332
              · skip
                replace hb123 := hb123.trans (if_neg (Int.not_le.mpr c132))
                refine pm_aload_n hC 0 (by decide) dX12_leads_188 rfl ?_
                refine pm_lconst (x := 0) hC dX12_leads_189 rfl ?_
                refine pm_putf hC 90 fl_X12_108 rfl rfl rfl (by decide) rfl trivial dX12_leads_190 ?_
                refine pm_aload_n hC 0 (by decide) dX12_leads_193 rfl ?_
                refine pm_iconst (v := 1) hC dX12_leads_194 ?_
                refine pm_putf hC 90 fl_X12_112 rfl rfl rfl (by decide) rfl trivial dX12_leads_195 ?_
                refine pm_goto (tgt := 332) hC dX12_leads_198 (by decide) ?_
                replace hb14 := hb14.trans (pf_val_inr hb123)
                replace hT := hT.trans (pf_val_inr hb14)
                exact pm_vret hC hR ⟨rfl, ((hV114.put 90 5 (x := 0) (lo := (-9223372036854775808)) (hi := 9223372036854775807) rfl ⟨by decide, by decide⟩).put 90 3 (x := 1) (lo := 0) (hi := 4) rfl ⟨by decide, by decide⟩), ((hF115.upf 5 0 rfl).upf 3 1 rfl), (by show (pm_up (pm_up V113 90 5 0) 90 3 1) 90 2 ≤ (pm_up (pm_up V113 90 5 0) 90 3 1) 90 1; rw [(show (pm_up (pm_up V113 90 5 0) 90 3 1) 90 2 = y128 from e129), (show (pm_up (pm_up V113 90 5 0) 90 3 1) 90 1 = y1 from e116)]; exact ow_60_37 c22 hm120 e129 c132), hT⟩ dX12_leads_332
            · skip
              replace hb123 := hb123.trans (if_neg (Int.not_le.mpr c131))
              refine pm_aload_n hC 0 (by decide) dX12_leads_110 rfl ?_
              refine pm_getf (v := 91) hC 90 fl_X12_9 rfl rfl (by decide) rfl e117 dX12_leads_111 ?_
              refine pm_aload_n hC 0 (by decide) dX12_leads_114 rfl ?_
              refine pm_getf (v := y128) hC 90 fl_X12_102 rfl rfl (by decide) rfl e129 dX12_leads_115 ?_
              obtain ⟨y133, e134⟩ : ∃ y, V113 91 (y128 : Int).toNat = y := ⟨_, rfl⟩
              replace hb123 := hb123.trans (pf_let_eq e134)
              have b135 := hV114.get 91 (y128 : Int).toNat (lo := (-128)) (hi := 127) (t := 0) (by decide) (show _ < 500 by exact ow_60_25 b3 c131) rfl
              rw [e134] at b135
              refine pm_baload (len := 500) (v := y133) hC 91 rfl rfl (by decide) ⟨by exact ow_60_12 b130, by exact ow_60_26 b3 c131⟩ (by decide) e134 dX12_leads_118 ?_
              refine pm_callS (as := [(0, y133)]) (st := []) hC (fP_X12_isLetter y133 ⟨by exact ow_60_14 b135, by exact ow_60_15 b135⟩) lm_X12_115 ls_X12_isLetter (by decide) (by decide) rfl rfl (Nat.le_of_ble_eq_true rfl) ⟨Nat.le_refl _, Or.inl rfl⟩ dX12_leads_119 ⟨rfl, hV114⟩ (fun r136 V137 hp138 => ?_)
              obtain ⟨y139, rfl, b140, rfl, hE141⟩ := hp138
              replace hb123 := hb123.trans (pf_call_eq hE141)
              change pm_J X 122 [(0, (3, 90)), (1, (0, y25))] [(0, y139)] 118 V113
              refine pm_if_eq (tgt := 174) hC ⟨by exact ow_60_17 b140, by exact ow_60_18 b140⟩ dX12_leads_122 (by decide) (fun c142 => ?_) (fun c142 => ?_)
              · skip
                replace hb123 := hb123.trans (if_pos c142)
                refine pm_aload_n hC 0 (by decide) dX12_leads_174 rfl ?_
                refine pm_getf (v := y128) hC 90 fl_X12_102 rfl rfl (by decide) rfl e129 dX12_leads_175 ?_
                refine pm_aload_n hC 0 (by decide) dX12_leads_178 rfl ?_
                refine pm_getf (v := y19) hC 90 fl_X12_105 rfl rfl (by decide) rfl e118 dX12_leads_179 ?_
                refine pm_isub hC dX12_leads_182 ?_
                refine pm_bipush (v := 8) hC dX12_leads_183 (by decide) ?_
                refine pm_icmp_le (tgt := 193) hC ⟨by exact ow_60_35 b21 b130, by exact ow_60_38 c22 c131⟩ ⟨by decide, by decide⟩ dX12_leads_185 (by decide) (fun c143 => ?_) (fun c143 => ?_)
                · skip
                  replace hb123 := hb123.trans (if_pos c143)
                  refine pm_aload_n hC 0 (by decide) dX12_leads_193 rfl ?_
                  refine pm_iconst (v := 1) hC dX12_leads_194 ?_
                  refine pm_putf hC 90 fl_X12_112 rfl rfl rfl (by decide) rfl trivial dX12_leads_195 ?_
                  refine pm_goto (tgt := 332) hC dX12_leads_198 (by decide) ?_
                  replace hb14 := hb14.trans (pf_val_inr hb123)
                  replace hT := hT.trans (pf_val_inr hb14)
                  exact pm_vret hC hR ⟨rfl, (hV114.put 90 3 (x := 1) (lo := 0) (hi := 4) rfl ⟨by decide, by decide⟩), (hF115.upf 3 1 rfl), (by show (pm_up V113 90 3 1) 90 2 ≤ (pm_up V113 90 3 1) 90 1; rw [(show (pm_up V113 90 3 1) 90 2 = y128 from e129), (show (pm_up V113 90 3 1) 90 1 = y1 from e116)]; exact ow_60_27 c131), hT⟩ dX12_leads_332
                · skip
                  replace hb123 := hb123.trans (if_neg (Int.not_le.mpr c143))
                  refine pm_aload_n hC 0 (by decide) dX12_leads_188 rfl ?_
                  refine pm_lconst (x := 0) hC dX12_leads_189 rfl ?_
                  refine pm_putf hC 90 fl_X12_108 rfl rfl rfl (by decide) rfl trivial dX12_leads_190 ?_
                  refine pm_aload_n hC 0 (by decide) dX12_leads_193 rfl ?_
                  refine pm_iconst (v := 1) hC dX12_leads_194 ?_
                  refine pm_putf hC 90 fl_X12_112 rfl rfl rfl (by decide) rfl trivial dX12_leads_195 ?_
                  refine pm_goto (tgt := 332) hC dX12_leads_198 (by decide) ?_
                  replace hb14 := hb14.trans (pf_val_inr hb123)
                  replace hT := hT.trans (pf_val_inr hb14)
                  exact pm_vret hC hR ⟨rfl, ((hV114.put 90 5 (x := 0) (lo := (-9223372036854775808)) (hi := 9223372036854775807) rfl ⟨by decide, by decide⟩).put 90 3 (x := 1) (lo := 0) (hi := 4) rfl ⟨by decide, by decide⟩), ((hF115.upf 5 0 rfl).upf 3 1 rfl), (by show (pm_up (pm_up V113 90 5 0) 90 3 1) 90 2 ≤ (pm_up (pm_up V113 90 5 0) 90 3 1) 90 1; rw [(show (pm_up (pm_up V113 90 5 0) 90 3 1) 90 2 = y128 from e129), (show (pm_up (pm_up V113 90 5 0) 90 3 1) 90 1 = y1 from e116)]; exact ow_60_39 c22 c131 c143), hT⟩ dX12_leads_332
              · skip
                replace hb123 := hb123.trans (if_neg c142)
                refine pm_aload_n hC 0 (by decide) dX12_leads_125 rfl ?_
                refine pm_getf (v := y128) hC 90 fl_X12_102 rfl rfl (by decide) rfl e129 dX12_leads_126 ?_
                refine pm_aload_n hC 0 (by decide) dX12_leads_129 rfl ?_
                refine pm_getf (v := y19) hC 90 fl_X12_105 rfl rfl (by decide) rfl e118 dX12_leads_130 ?_
                refine pm_isub hC dX12_leads_133 ?_
                refine pm_bipush (v := 8) hC dX12_leads_134 (by decide) ?_
                refine pm_icmp_ge (tgt := 161) hC ⟨by exact ow_60_35 b21 b130, by exact ow_60_38 c22 c131⟩ ⟨by decide, by decide⟩ dX12_leads_136 (by decide) (fun c144 => ?_) (fun c144 => ?_)
                · skip
                  replace hb123 := hb123.trans (if_pos c144)
                  refine pm_aload_n hC 0 (by decide) dX12_leads_161 rfl ?_
                  refine pm_dup hC rfl dX12_leads_162 ?_
                  refine pm_getf (v := y128) hC 90 fl_X12_102 rfl rfl (by decide) rfl e129 dX12_leads_163 ?_
                  refine pm_iconst (v := 1) hC dX12_leads_166 ?_
                  refine pm_iadd hC dX12_leads_167 ?_
                  refine pm_putf hC 90 fl_X12_102 rfl rfl rfl (by decide) rfl trivial dX12_leads_168 ?_
                  refine pm_goto (tgt := 99) hC dX12_leads_171 (by decide) ?_
                  refine pm_lvsub [0, 1] (lv' := [(0, (3, 90)), (1, (0, y25))]) rfl ?_
                  exact ih127 _ (by show Int.toNat (500 - (y128 + 1)) < _; exact ow_60_40 c22 c131 c144) (pm_up V113 90 2 (y128 + 1)) (hV114.put 90 2 (x := (y128 + 1)) (lo := 0) (hi := 500) rfl ⟨by exact ow_60_41 b21 c144, by exact ow_60_42 c22 c131 c144⟩) (hF115.upf 2 (y128 + 1) rfl) e116 e117 e118 e119 (show (y128 + 1) ≤ y1 by exact ow_60_43 c22 c131 c144) (hb14.trans (pf_val_inl hb123)) rfl
                · skip
                  replace hb123 := hb123.trans (if_neg (Int.not_le.mpr c144))
                  refine pm_aload_n hC 0 (by decide) dX12_leads_139 rfl ?_
                  refine pm_aload_n hC 0 (by decide) dX12_leads_140 rfl ?_
                  obtain ⟨y145, e146⟩ : ∃ y, V113 90 5 = y := ⟨_, rfl⟩
                  have b147 := hV114.get 90 5 (lo := (-9223372036854775808)) (hi := 9223372036854775807) (by decide) (by decide) rfl
                  rw [e146] at b147
                  replace hb123 := hb123.trans (pf_let_eq e146)
                  refine pm_getf (v := y145) hC 90 fl_X12_108 rfl rfl (by decide) rfl e146 dX12_leads_141 ?_
                  refine pm_bipush (v := 8) hC dX12_leads_144 (by decide) ?_
                  refine pm_lshl hC dX12_leads_146 ?_
                  have b149 := pm_lshlr y145 8
                  obtain ⟨y148, hey148⟩ : ∃ z, (pm_lshlV y145 8) = z := ⟨_, rfl⟩
                  rw [hey148] at b149 ⊢
                  replace hb123 := hb123.trans (pf_let_eq hey148)
                  refine pm_aload_n hC 0 (by decide) dX12_leads_147 rfl ?_
                  refine pm_getf (v := 91) hC 90 fl_X12_9 rfl rfl (by decide) rfl e117 dX12_leads_148 ?_
                  refine pm_aload_n hC 0 (by decide) dX12_leads_151 rfl ?_
                  refine pm_getf (v := y128) hC 90 fl_X12_102 rfl rfl (by decide) rfl e129 dX12_leads_152 ?_
                  refine pm_baload (len := 500) (v := y133) hC 91 rfl rfl (by decide) ⟨by exact ow_60_12 b130, by exact ow_60_26 b3 c131⟩ (by decide) e134 dX12_leads_155 ?_
                  refine pm_i2l hC ⟨by exact ow_60_14 b135, by exact ow_60_15 b135⟩ dX12_leads_156 ?_
                  refine pm_lor hC dX12_leads_157 ?_
                  have b151 := pm_lorr y148 y133
                  obtain ⟨y150, hey150⟩ : ∃ z, (pm_lorV y148 y133) = z := ⟨_, rfl⟩
                  rw [hey150] at b151 ⊢
                  replace hb123 := hb123.trans (pf_let_eq hey150)
                  refine pm_putf hC 90 fl_X12_108 rfl rfl rfl (by decide) rfl trivial dX12_leads_158 ?_
                  refine pm_aload_n hC 0 (by decide) dX12_leads_161 rfl ?_
                  refine pm_dup hC rfl dX12_leads_162 ?_
                  refine pm_getf (v := y128) hC 90 fl_X12_102 rfl rfl (by decide) rfl e129 dX12_leads_163 ?_
                  refine pm_iconst (v := 1) hC dX12_leads_166 ?_
                  refine pm_iadd hC dX12_leads_167 ?_
                  refine pm_putf hC 90 fl_X12_102 rfl rfl rfl (by decide) rfl trivial dX12_leads_168 ?_
                  refine pm_goto (tgt := 99) hC dX12_leads_171 (by decide) ?_
                  refine pm_lvsub [0, 1] (lv' := [(0, (3, 90)), (1, (0, y25))]) rfl ?_
                  exact ih127 _ (by show Int.toNat (500 - (y128 + 1)) < _; exact ow_60_32 b3 hm125 e129 c131) (pm_up (pm_up V113 90 5 y150) 90 2 (y128 + 1)) ((hV114.put 90 5 (x := y150) (lo := (-9223372036854775808)) (hi := 9223372036854775807) rfl ⟨by exact ow_60_28 b151, by exact ow_60_29 b151⟩).put 90 2 (x := (y128 + 1)) (lo := 0) (hi := 500) rfl ⟨by exact ow_60_21 b130, by exact ow_60_33 b3 c131⟩) ((hF115.upf 5 y150 rfl).upf 2 (y128 + 1) rfl) e116 e117 e118 e119 (show (y128 + 1) ≤ y1 by exact ow_60_34 c131) (hb14.trans (pf_val_inl hb123)) rfl
          refine pm_lvsub [1, 0] (lv' := [(0, (3, 90)), (1, (0, y25))]) rfl ?_
          exact L124 _ V103 hV105 hF106 e107 e109 e110 e112 (by (have e : V103 90 2 = y19 := e108); rw [e]; exact ow_60_24 hm11 e20) hb14 rfl
      · skip
        replace hb14 := hb14.trans (if_neg (fun q => q c23))
        replace hT := hT.trans (pf_val_inr hb14)
        exact pm_vret hC hR ⟨rfl, (((hV8.put 90 4 (x := y19) (lo := 0) (hi := 500) rfl ⟨by exact ow_60_12 b21, by exact ow_60_16 b21⟩).put 90 5 (x := 0) (lo := (-9223372036854775808)) (hi := 9223372036854775807) rfl ⟨by decide, by decide⟩).put 90 3 (x := 0) (lo := 0) (hi := 4) rfl ⟨by decide, by decide⟩), (((hF9.upf 4 y19 rfl).upf 5 0 rfl).upf 3 0 rfl), (by show (pm_up (pm_up (pm_up V7 90 4 y19) 90 5 0) 90 3 0) 90 2 ≤ (pm_up (pm_up (pm_up V7 90 4 y19) 90 5 0) 90 3 0) 90 1; rw [(show (pm_up (pm_up (pm_up V7 90 4 y19) 90 5 0) 90 3 0) 90 2 = y19 from e20), (show (pm_up (pm_up (pm_up V7 90 4 y19) 90 5 0) 90 3 0) 90 1 = y1 from e10)]; exact ow_60_44 c23), hT⟩ dX12_leads_81
    · skip
      replace hb14 := hb14.trans (if_neg (Int.not_le.mpr c22))
      refine pm_aload_n hC 0 (by decide) dX12_leads_11 rfl ?_
      have e152 : V7 90 0 = 91 := hV8.one 90 0 (by decide) (by decide) rfl
      refine pm_getf (v := 91) hC 90 fl_X12_9 rfl rfl (by decide) rfl e152 dX12_leads_12 ?_
      refine pm_aload_n hC 0 (by decide) dX12_leads_15 rfl ?_
      refine pm_getf (v := y19) hC 90 fl_X12_102 rfl rfl (by decide) rfl e20 dX12_leads_16 ?_
      obtain ⟨y153, e154⟩ : ∃ y, V7 91 (y19 : Int).toNat = y := ⟨_, rfl⟩
      replace hb14 := hb14.trans (pf_let_eq e154)
      have b155 := hV8.get 91 (y19 : Int).toNat (lo := (-128)) (hi := 127) (t := 0) (by decide) (show _ < 500 by exact ow_60_25 b3 c22) rfl
      rw [e154] at b155
      refine pm_baload (len := 500) (v := y153) hC 91 rfl rfl (by decide) ⟨by exact ow_60_12 b21, by exact ow_60_26 b3 c22⟩ (by decide) e154 dX12_leads_19 ?_
      refine pm_bipush (v := 32) hC dX12_leads_20 (by decide) ?_
      refine pm_icmp_eq (tgt := 39) hC ⟨by exact ow_60_14 b155, by exact ow_60_15 b155⟩ ⟨by decide, by decide⟩ dX12_leads_22 (by decide) (fun c156 => ?_) (fun c156 => ?_)
      · skip
        replace hb14 := hb14.trans (if_pos c156)
        refine pm_aload_n hC 0 (by decide) dX12_leads_39 rfl ?_
        refine pm_dup hC rfl dX12_leads_40 ?_
        refine pm_getf (v := y19) hC 90 fl_X12_102 rfl rfl (by decide) rfl e20 dX12_leads_41 ?_
        refine pm_iconst (v := 1) hC dX12_leads_44 ?_
        refine pm_iadd hC dX12_leads_45 ?_
        refine pm_putf hC 90 fl_X12_102 rfl rfl rfl (by decide) rfl trivial dX12_leads_46 ?_
        refine pm_goto (tgt := 0) hC dX12_leads_49 (by decide) ?_
        refine pm_lvsub [0] (lv' := [(0, (3, 90))]) rfl ?_
        exact ih18 _ (by show Int.toNat (500 - (y19 + 1)) < _; exact ow_60_32 b3 hm16 e20 c22) (pm_up V7 90 2 (y19 + 1)) (hV8.put 90 2 (x := (y19 + 1)) (lo := 0) (hi := 500) rfl ⟨by exact ow_60_21 b21, by exact ow_60_33 b3 c22⟩) (hF9.upf 2 (y19 + 1) rfl) e10 (show (y19 + 1) ≤ y1 by exact ow_60_34 c22) (hT.trans (pf_val_inl hb14)) rfl
      · skip
        replace hb14 := hb14.trans (if_neg c156)
        refine pm_aload_n hC 0 (by decide) dX12_leads_25 rfl ?_
        refine pm_getf (v := 91) hC 90 fl_X12_9 rfl rfl (by decide) rfl e152 dX12_leads_26 ?_
        refine pm_aload_n hC 0 (by decide) dX12_leads_29 rfl ?_
        refine pm_getf (v := y19) hC 90 fl_X12_102 rfl rfl (by decide) rfl e20 dX12_leads_30 ?_
        refine pm_baload (len := 500) (v := y153) hC 91 rfl rfl (by decide) ⟨by exact ow_60_12 b21, by exact ow_60_26 b3 c22⟩ (by decide) e154 dX12_leads_33 ?_
        refine pm_bipush (v := 10) hC dX12_leads_34 (by decide) ?_
        refine pm_icmp_ne (tgt := 52) hC ⟨by exact ow_60_14 b155, by exact ow_60_15 b155⟩ ⟨by decide, by decide⟩ dX12_leads_36 (by decide) (fun c157 => ?_) (fun c157 => ?_)
        · skip
          replace hb14 := hb14.trans (if_pos c157)
          refine pm_aload_n hC 0 (by decide) dX12_leads_52 rfl ?_
          refine pm_aload_n hC 0 (by decide) dX12_leads_53 rfl ?_
          refine pm_getf (v := y19) hC 90 fl_X12_102 rfl rfl (by decide) rfl e20 dX12_leads_54 ?_
          refine pm_putf hC 90 fl_X12_105 rfl rfl rfl (by decide) rfl trivial dX12_leads_57 ?_
          refine pm_aload_n hC 0 (by decide) dX12_leads_60 rfl ?_
          refine pm_lconst (x := 0) hC dX12_leads_61 rfl ?_
          refine pm_putf hC 90 fl_X12_108 rfl rfl rfl (by decide) rfl trivial dX12_leads_62 ?_
          refine pm_aload_n hC 0 (by decide) dX12_leads_65 rfl ?_
          refine pm_iconst (v := 0) hC dX12_leads_66 ?_
          refine pm_putf hC 90 fl_X12_112 rfl rfl rfl (by decide) rfl trivial dX12_leads_67 ?_
          refine pm_aload_n hC 0 (by decide) dX12_leads_70 rfl ?_
          refine pm_getf (v := y19) hC 90 fl_X12_102 rfl rfl (by decide) rfl e20 dX12_leads_71 ?_
          refine pm_aload_n hC 0 (by decide) dX12_leads_74 rfl ?_
          refine pm_getf (v := y1) hC 90 fl_X12_94 rfl rfl (by decide) rfl e10 dX12_leads_75 ?_
          refine pm_icmp_ne (tgt := 82) hC ⟨by exact ow_60_9 b21, by exact ow_60_10 b21⟩ ⟨by exact ow_60_9 b3, by exact ow_60_10 b3⟩ dX12_leads_78 (by decide) (fun c158 => ?_) (fun c158 => ?_)
          · skip
            replace hb14 := hb14.trans (if_pos c158)
            refine pm_aload_n hC 0 (by decide) dX12_leads_82 rfl ?_
            refine pm_getf (v := 91) hC 90 fl_X12_9 rfl rfl (by decide) rfl e152 dX12_leads_83 ?_
            refine pm_aload_n hC 0 (by decide) dX12_leads_86 rfl ?_
            refine pm_getf (v := y19) hC 90 fl_X12_102 rfl rfl (by decide) rfl e20 dX12_leads_87 ?_
            refine pm_baload (len := 500) (v := y153) hC 91 rfl rfl (by decide) ⟨by exact ow_60_12 b21, by exact ow_60_26 b3 c22⟩ (by decide) e154 dX12_leads_90 ?_
            refine pm_istore_n (lv' := [(1, (0, y153)), (0, (3, 90))]) hC dX12_leads_91 (by decide) rfl ?_
            refine pm_iload_n hC 0 dX12_leads_92 rfl ?_
            refine pm_callS (as := [(0, y153)]) (st := []) hC (fP_X12_isLetter y153 ⟨by exact ow_60_14 b155, by exact ow_60_15 b155⟩) lm_X12_115 ls_X12_isLetter (by decide) (by decide) rfl rfl (Nat.le_of_ble_eq_true rfl) ⟨Nat.le_refl _, Or.inl rfl⟩ dX12_leads_93 ⟨rfl, (((hV8.put 90 4 (x := y19) (lo := 0) (hi := 500) rfl ⟨by exact ow_60_12 b21, by exact ow_60_45 b3 c22⟩).put 90 5 (x := 0) (lo := (-9223372036854775808)) (hi := 9223372036854775807) rfl ⟨by decide, by decide⟩).put 90 3 (x := 0) (lo := 0) (hi := 4) rfl ⟨by decide, by decide⟩)⟩ (fun r159 V160 hp161 => ?_)
            obtain ⟨y162, rfl, b163, rfl, hE164⟩ := hp161
            replace hb14 := hb14.trans (pf_call_eq hE164)
            change pm_J X 96 [(1, (0, y153)), (0, (3, 90))] [(0, y162)] 118 (pm_up (pm_up (pm_up V7 90 4 y19) 90 5 0) 90 3 0)
            refine pm_if_eq (tgt := 201) hC ⟨by exact ow_60_17 b163, by exact ow_60_18 b163⟩ dX12_leads_96 (by decide) (fun c165 => ?_) (fun c165 => ?_)
            · skip
              replace hb14 := hb14.trans (if_pos c165)
              refine pm_iload_n hC 0 dX12_leads_201 rfl ?_
              refine pm_callS (as := [(0, y153)]) (st := []) hC (fP_X12_isDigit y153 ⟨by exact ow_60_14 b155, by exact ow_60_15 b155⟩) lm_X12_119 ls_X12_isDigit (by decide) (by decide) rfl rfl (Nat.le_of_ble_eq_true rfl) ⟨Nat.le_refl _, Or.inl rfl⟩ dX12_leads_202 ⟨rfl, (((hV8.put 90 4 (x := y19) (lo := 0) (hi := 500) rfl ⟨by exact ow_60_12 b21, by exact ow_60_45 b3 c22⟩).put 90 5 (x := 0) (lo := (-9223372036854775808)) (hi := 9223372036854775807) rfl ⟨by decide, by decide⟩).put 90 3 (x := 0) (lo := 0) (hi := 4) rfl ⟨by decide, by decide⟩)⟩ (fun r166 V167 hp168 => ?_)
              obtain ⟨y169, rfl, b170, rfl, hE171⟩ := hp168
              replace hb14 := hb14.trans (pf_call_eq hE171)
              change pm_J X 205 [(1, (0, y153)), (0, (3, 90))] [(0, y169)] 118 (pm_up (pm_up (pm_up V7 90 4 y19) 90 5 0) 90 3 0)
              refine pm_if_eq (tgt := 300) hC ⟨by exact ow_60_17 b170, by exact ow_60_18 b170⟩ dX12_leads_205 (by decide) (fun c172 => ?_) (fun c172 => ?_)
              · skip
                replace hb14 := hb14.trans (if_pos c172)
                refine pm_aload_n hC 1 (by decide) dX12_leads_300 rfl ?_
                refine pm_iload_n hC 0 dX12_leads_301 rfl ?_
                refine pm_callS (as := [(0, y153)]) (st := [(3, 90)]) hC (fP_X12_isSignByte y153 ⟨by exact ow_60_14 b155, by exact ow_60_15 b155⟩) lm_X12_128 ls_X12_isSignByte (by decide) (by decide) rfl rfl (Nat.le_of_ble_eq_true rfl) ⟨Nat.le_refl _, Or.inl rfl⟩ dX12_leads_302 ⟨rfl, (((hV8.put 90 4 (x := y19) (lo := 0) (hi := 500) rfl ⟨by exact ow_60_12 b21, by exact ow_60_45 b3 c22⟩).put 90 5 (x := 0) (lo := (-9223372036854775808)) (hi := 9223372036854775807) rfl ⟨by decide, by decide⟩).put 90 3 (x := 0) (lo := 0) (hi := 4) rfl ⟨by decide, by decide⟩)⟩ (fun r173 V174 hp175 => ?_)
                obtain ⟨y176, rfl, b177, rfl, hE178⟩ := hp175
                replace hb14 := hb14.trans (pf_call_eq hE178)
                change pm_J X 305 [(1, (0, y153)), (0, (3, 90))] [(0, y176), (3, 90)] 118 (pm_up (pm_up (pm_up V7 90 4 y19) 90 5 0) 90 3 0)
                refine pm_if_eq (tgt := 312) hC ⟨by exact ow_60_17 b177, by exact ow_60_18 b177⟩ dX12_leads_305 (by decide) (fun c179 => ?_) (fun c179 => ?_)
                · skip
                  replace hb14 := hb14.trans (if_pos c179)
                  refine pm_iconst (v := 4) hC dX12_leads_312 ?_
                  refine pm_putf hC 90 fl_X12_112 rfl rfl rfl (by decide) rfl trivial dX12_leads_313 ?_
                  refine pm_aload_n hC 1 (by decide) dX12_leads_316 rfl ?_
                  refine pm_iload_n hC 0 dX12_leads_317 rfl ?_
                  refine pm_i2l hC ⟨by exact ow_60_14 b155, by exact ow_60_15 b155⟩ dX12_leads_318 ?_
                  refine pm_putf hC 90 fl_X12_108 rfl rfl rfl (by decide) rfl trivial dX12_leads_319 ?_
                  refine pm_aload_n hC 1 (by decide) dX12_leads_322 rfl ?_
                  refine pm_dup hC rfl dX12_leads_323 ?_
                  refine pm_getf (v := y19) hC 90 fl_X12_102 rfl rfl (by decide) rfl e20 dX12_leads_324 ?_
                  refine pm_iconst (v := 1) hC dX12_leads_327 ?_
                  refine pm_iadd hC dX12_leads_328 ?_
                  refine pm_putf hC 90 fl_X12_102 rfl rfl rfl (by decide) rfl trivial dX12_leads_329 ?_
                  replace hT := hT.trans (pf_val_inr hb14)
                  exact pm_vret hC hR ⟨rfl, ((((((hV8.put 90 4 (x := y19) (lo := 0) (hi := 500) rfl ⟨by exact ow_60_12 b21, by exact ow_60_45 b3 c22⟩).put 90 5 (x := 0) (lo := (-9223372036854775808)) (hi := 9223372036854775807) rfl ⟨by decide, by decide⟩).put 90 3 (x := 0) (lo := 0) (hi := 4) rfl ⟨by decide, by decide⟩).put 90 3 (x := 4) (lo := 0) (hi := 4) rfl ⟨by decide, by decide⟩).put 90 5 (x := y153) (lo := (-9223372036854775808)) (hi := 9223372036854775807) rfl ⟨by exact ow_60_19 b155, by exact ow_60_20 b155⟩).put 90 2 (x := (y19 + 1)) (lo := 0) (hi := 500) rfl ⟨by exact ow_60_21 b21, by exact ow_60_33 b3 c22⟩), ((((((hF9.upf 4 y19 rfl).upf 5 0 rfl).upf 3 0 rfl).upf 3 4 rfl).upf 5 y153 rfl).upf 2 (y19 + 1) rfl), (by show (pm_up (pm_up (pm_up (pm_up (pm_up (pm_up V7 90 4 y19) 90 5 0) 90 3 0) 90 3 4) 90 5 y153) 90 2 (y19 + 1)) 90 2 ≤ (pm_up (pm_up (pm_up (pm_up (pm_up (pm_up V7 90 4 y19) 90 5 0) 90 3 0) 90 3 4) 90 5 y153) 90 2 (y19 + 1)) 90 1; rw [(show (pm_up (pm_up (pm_up (pm_up (pm_up (pm_up V7 90 4 y19) 90 5 0) 90 3 0) 90 3 4) 90 5 y153) 90 2 (y19 + 1)) 90 2 = (y19 + 1) from rfl), (show (pm_up (pm_up (pm_up (pm_up (pm_up (pm_up V7 90 4 y19) 90 5 0) 90 3 0) 90 3 4) 90 5 y153) 90 2 (y19 + 1)) 90 1 = y1 from e10)]; exact ow_60_34 c22), hT⟩ dX12_leads_332
                · skip
                  replace hb14 := hb14.trans (if_neg c179)
                  refine pm_iconst (v := 3) hC dX12_leads_308 ?_
                  refine pm_goto (tgt := 313) hC dX12_leads_309 (by decide) ?_
                  refine pm_putf hC 90 fl_X12_112 rfl rfl rfl (by decide) rfl trivial dX12_leads_313 ?_
                  refine pm_aload_n hC 1 (by decide) dX12_leads_316 rfl ?_
                  refine pm_iload_n hC 0 dX12_leads_317 rfl ?_
                  refine pm_i2l hC ⟨by exact ow_60_14 b155, by exact ow_60_15 b155⟩ dX12_leads_318 ?_
                  refine pm_putf hC 90 fl_X12_108 rfl rfl rfl (by decide) rfl trivial dX12_leads_319 ?_
                  refine pm_aload_n hC 1 (by decide) dX12_leads_322 rfl ?_
                  refine pm_dup hC rfl dX12_leads_323 ?_
                  refine pm_getf (v := y19) hC 90 fl_X12_102 rfl rfl (by decide) rfl e20 dX12_leads_324 ?_
                  refine pm_iconst (v := 1) hC dX12_leads_327 ?_
                  refine pm_iadd hC dX12_leads_328 ?_
                  refine pm_putf hC 90 fl_X12_102 rfl rfl rfl (by decide) rfl trivial dX12_leads_329 ?_
                  replace hT := hT.trans (pf_val_inr hb14)
                  exact pm_vret hC hR ⟨rfl, ((((((hV8.put 90 4 (x := y19) (lo := 0) (hi := 500) rfl ⟨by exact ow_60_12 b21, by exact ow_60_45 b3 c22⟩).put 90 5 (x := 0) (lo := (-9223372036854775808)) (hi := 9223372036854775807) rfl ⟨by decide, by decide⟩).put 90 3 (x := 0) (lo := 0) (hi := 4) rfl ⟨by decide, by decide⟩).put 90 3 (x := 3) (lo := 0) (hi := 4) rfl ⟨by decide, by decide⟩).put 90 5 (x := y153) (lo := (-9223372036854775808)) (hi := 9223372036854775807) rfl ⟨by exact ow_60_19 b155, by exact ow_60_20 b155⟩).put 90 2 (x := (y19 + 1)) (lo := 0) (hi := 500) rfl ⟨by exact ow_60_21 b21, by exact ow_60_33 b3 c22⟩), ((((((hF9.upf 4 y19 rfl).upf 5 0 rfl).upf 3 0 rfl).upf 3 3 rfl).upf 5 y153 rfl).upf 2 (y19 + 1) rfl), (by show (pm_up (pm_up (pm_up (pm_up (pm_up (pm_up V7 90 4 y19) 90 5 0) 90 3 0) 90 3 3) 90 5 y153) 90 2 (y19 + 1)) 90 2 ≤ (pm_up (pm_up (pm_up (pm_up (pm_up (pm_up V7 90 4 y19) 90 5 0) 90 3 0) 90 3 3) 90 5 y153) 90 2 (y19 + 1)) 90 1; rw [(show (pm_up (pm_up (pm_up (pm_up (pm_up (pm_up V7 90 4 y19) 90 5 0) 90 3 0) 90 3 3) 90 5 y153) 90 2 (y19 + 1)) 90 2 = (y19 + 1) from rfl), (show (pm_up (pm_up (pm_up (pm_up (pm_up (pm_up V7 90 4 y19) 90 5 0) 90 3 0) 90 3 3) 90 5 y153) 90 2 (y19 + 1)) 90 1 = y1 from e10)]; exact ow_60_34 c22), hT⟩ dX12_leads_332
              · skip
                replace hb14 := hb14.trans (if_neg c172)
                have hV182 := (((hV8.put 90 4 (x := y19) (lo := 0) (hi := 500) rfl ⟨by exact ow_60_12 b21, by exact ow_60_45 b3 c22⟩).put 90 5 (x := 0) (lo := (-9223372036854775808)) (hi := 9223372036854775807) rfl ⟨by decide, by decide⟩).put 90 3 (x := 0) (lo := 0) (hi := 4) rfl ⟨by decide, by decide⟩)
                have hF183 := (((hF9.upf 4 y19 rfl).upf 5 0 rfl).upf 3 0 rfl)
                obtain ⟨V180, hv181⟩ : ∃ V, V = (pm_up (pm_up (pm_up V7 90 4 y19) 90 5 0) 90 3 0) := ⟨_, rfl⟩
                rw [← hv181] at hV182 hF183
                rw [← hv181]
                replace hb14 := hb14.trans (pf_let_eq hv181.symm)
                have e184 : V180 90 1 = y1 := by rw [hv181]; exact e10
                have e185 : V180 90 2 = y19 := by rw [hv181]; exact e20
                have e186 : V180 90 0 = 91 := by rw [hv181]; exact e152
                have e187 : V180 90 4 = y19 := by rw [hv181]; rfl
                have e188 : V180 90 5 = 0 := by rw [hv181]; rfl
                have e189 : V180 90 3 = 0 := by rw [hv181]; rfl
                obtain ⟨B198, hB199, hb14⟩ := pf_loop hb14
                have L201 : ∀ (N203 : Nat) (V190 : pm_M), pm_oq pm_qP V190 → pm_fs [] [2, 3, 4, 5] V0 V190 → V190 90 1 = y1 → V190 90 0 = 91 → V190 90 4 = y19 → V190 90 3 = 0 → (V190 90 2 ≤ y1) → B12 V7 = pf_val (.inr ((0 : Int), V0)) B198 V190 → (Int.toNat (500 - V190 90 2)) = N203 → pm_J X 208 [(0, (3, 90)), (1, (0, y153))] [] 118 V190 := by
                  intro N203
                  induction N203 using Nat.strongRecOn with
                  | _ N203 ih204 =>
                  intro V190 hV191 hF192 e193 e194 e195 e196 hm197 hb14 hm202
                  have hb200 := congrFun hB199 V190
                  refine pm_aload_n hC 0 (by decide) dX12_leads_208 rfl ?_
                  obtain ⟨y205, e206⟩ : ∃ y, V190 90 2 = y := ⟨_, rfl⟩
                  have b207 := hV191.get 90 2 (lo := 0) (hi := 500) (by decide) (by decide) rfl
                  rw [e206] at b207
                  replace hb200 := hb200.trans (pf_let_eq e206)
                  refine pm_getf (v := y205) hC 90 fl_X12_102 rfl rfl (by decide) rfl e206 dX12_leads_209 ?_
                  refine pm_aload_n hC 0 (by decide) dX12_leads_212 rfl ?_
                  refine pm_getf (v := y1) hC 90 fl_X12_94 rfl rfl (by decide) rfl e193 dX12_leads_213 ?_
                  refine pm_icmp_ge (tgt := 292) hC ⟨by exact ow_60_9 b207, by exact ow_60_10 b207⟩ ⟨by exact ow_60_9 b3, by exact ow_60_10 b3⟩ dX12_leads_216 (by decide) (fun c208 => ?_) (fun c208 => ?_)
                  · skip
                    replace hb200 := hb200.trans (if_pos c208)
                    refine pm_aload_n hC 0 (by decide) dX12_leads_292 rfl ?_
                    refine pm_iconst (v := 2) hC dX12_leads_293 ?_
                    refine pm_putf hC 90 fl_X12_112 rfl rfl rfl (by decide) rfl trivial dX12_leads_294 ?_
                    refine pm_goto (tgt := 332) hC dX12_leads_297 (by decide) ?_
                    replace hb14 := hb14.trans (pf_val_inr hb200)
                    replace hT := hT.trans (pf_val_inr hb14)
                    exact pm_vret hC hR ⟨rfl, (hV191.put 90 3 (x := 2) (lo := 0) (hi := 4) rfl ⟨by decide, by decide⟩), (hF192.upf 3 2 rfl), (by show (pm_up V190 90 3 2) 90 2 ≤ (pm_up V190 90 3 2) 90 1; rw [(show (pm_up V190 90 3 2) 90 2 = y205 from e206), (show (pm_up V190 90 3 2) 90 1 = y1 from e193)]; exact ow_60_24 hm197 e206), hT⟩ dX12_leads_332
                  · skip
                    replace hb200 := hb200.trans (if_neg (Int.not_le.mpr c208))
                    refine pm_aload_n hC 0 (by decide) dX12_leads_219 rfl ?_
                    refine pm_getf (v := 91) hC 90 fl_X12_9 rfl rfl (by decide) rfl e194 dX12_leads_220 ?_
                    refine pm_aload_n hC 0 (by decide) dX12_leads_223 rfl ?_
                    refine pm_getf (v := y205) hC 90 fl_X12_102 rfl rfl (by decide) rfl e206 dX12_leads_224 ?_
                    obtain ⟨y209, e210⟩ : ∃ y, V190 91 (y205 : Int).toNat = y := ⟨_, rfl⟩
                    replace hb200 := hb200.trans (pf_let_eq e210)
                    have b211 := hV191.get 91 (y205 : Int).toNat (lo := (-128)) (hi := 127) (t := 0) (by decide) (show _ < 500 by exact ow_60_25 b3 c208) rfl
                    rw [e210] at b211
                    refine pm_baload (len := 500) (v := y209) hC 91 rfl rfl (by decide) ⟨by exact ow_60_12 b207, by exact ow_60_26 b3 c208⟩ (by decide) e210 dX12_leads_227 ?_
                    refine pm_callS (as := [(0, y209)]) (st := []) hC (fP_X12_isDigit y209 ⟨by exact ow_60_14 b211, by exact ow_60_15 b211⟩) lm_X12_119 ls_X12_isDigit (by decide) (by decide) rfl rfl (Nat.le_of_ble_eq_true rfl) ⟨Nat.le_refl _, Or.inl rfl⟩ dX12_leads_228 ⟨rfl, hV191⟩ (fun r212 V213 hp214 => ?_)
                    obtain ⟨y215, rfl, b216, rfl, hE217⟩ := hp214
                    replace hb200 := hb200.trans (pf_call_eq hE217)
                    change pm_J X 231 [(0, (3, 90)), (1, (0, y153))] [(0, y215)] 118 V190
                    refine pm_if_eq (tgt := 292) hC ⟨by exact ow_60_17 b216, by exact ow_60_18 b216⟩ dX12_leads_231 (by decide) (fun c218 => ?_) (fun c218 => ?_)
                    · skip
                      replace hb200 := hb200.trans (if_pos c218)
                      refine pm_aload_n hC 0 (by decide) dX12_leads_292 rfl ?_
                      refine pm_iconst (v := 2) hC dX12_leads_293 ?_
                      refine pm_putf hC 90 fl_X12_112 rfl rfl rfl (by decide) rfl trivial dX12_leads_294 ?_
                      refine pm_goto (tgt := 332) hC dX12_leads_297 (by decide) ?_
                      replace hb14 := hb14.trans (pf_val_inr hb200)
                      replace hT := hT.trans (pf_val_inr hb14)
                      exact pm_vret hC hR ⟨rfl, (hV191.put 90 3 (x := 2) (lo := 0) (hi := 4) rfl ⟨by decide, by decide⟩), (hF192.upf 3 2 rfl), (by show (pm_up V190 90 3 2) 90 2 ≤ (pm_up V190 90 3 2) 90 1; rw [(show (pm_up V190 90 3 2) 90 2 = y205 from e206), (show (pm_up V190 90 3 2) 90 1 = y1 from e193)]; exact ow_60_27 c208), hT⟩ dX12_leads_332
                    · skip
                      replace hb200 := hb200.trans (if_neg c218)
                      refine pm_aload_n hC 0 (by decide) dX12_leads_234 rfl ?_
                      refine pm_aload_n hC 0 (by decide) dX12_leads_235 rfl ?_
                      obtain ⟨y219, e220⟩ : ∃ y, V190 90 5 = y := ⟨_, rfl⟩
                      have b221 := hV191.get 90 5 (lo := (-9223372036854775808)) (hi := 9223372036854775807) (by decide) (by decide) rfl
                      rw [e220] at b221
                      replace hb200 := hb200.trans (pf_let_eq e220)
                      refine pm_getf (v := y219) hC 90 fl_X12_108 rfl rfl (by decide) rfl e220 dX12_leads_236 ?_
                      refine pm_ldc2 (v := 99999) hC 6086 dX12_leads_239 (by decide +kernel) ?_
                      refine pm_lcmp hC ⟨by exact ow_60_28 b221, by exact ow_60_29 b221⟩ ⟨by decide, by decide⟩ dX12_leads_242 (fun y222 b223 => ?_)
                      replace hb200 := hb200.trans (pf_let_eq (pm_cmp_u b223))
                      refine pm_if_le (tgt := 253) hC ⟨by exact ow_60_46 b223, by exact ow_60_47 b223⟩ dX12_leads_243 (by decide) (fun c224 => ?_) (fun c224 => ?_)
                      · skip
                        replace hb200 := hb200.trans (if_pos c224)
                        refine pm_ldc2 (v := 10) hC 6087 dX12_leads_253 (by decide +kernel) ?_
                        refine pm_aload_n hC 0 (by decide) dX12_leads_256 rfl ?_
                        refine pm_getf (v := y219) hC 90 fl_X12_108 rfl rfl (by decide) rfl e220 dX12_leads_257 ?_
                        refine pm_lmul hC dX12_leads_260 ?_
                        refine pm_wrL hC (fun y225 hw227 b226 => ?_)
                        replace hb200 := hb200.trans (pf_let_eq hw227)
                        have b226 := And.intro b226.1 b226.2
                        refine pm_aload_n hC 0 (by decide) dX12_leads_261 rfl ?_
                        refine pm_getf (v := 91) hC 90 fl_X12_9 rfl rfl (by decide) rfl e194 dX12_leads_262 ?_
                        refine pm_aload_n hC 0 (by decide) dX12_leads_265 rfl ?_
                        refine pm_getf (v := y205) hC 90 fl_X12_102 rfl rfl (by decide) rfl e206 dX12_leads_266 ?_
                        refine pm_baload (len := 500) (v := y209) hC 91 rfl rfl (by decide) ⟨by exact ow_60_12 b207, by exact ow_60_26 b3 c208⟩ (by decide) e210 dX12_leads_269 ?_
                        refine pm_i2l hC ⟨by exact ow_60_14 b211, by exact ow_60_15 b211⟩ dX12_leads_270 ?_
                        refine pm_ladd hC dX12_leads_271 ?_
                        refine pm_wrL hC (fun y228 hw230 b229 => ?_)
                        replace hb200 := hb200.trans (pf_let_eq hw230)
                        have b229 := And.intro b229.1 b229.2
                        refine pm_ldc2 (v := 48) hC 6088 dX12_leads_272 (by decide +kernel) ?_
                        refine pm_lsub hC dX12_leads_275 ?_
                        refine pm_wrL hC (fun y231 hw233 b232 => ?_)
                        replace hb200 := hb200.trans (pf_let_eq hw233)
                        have b232 := And.intro b232.1 b232.2
                        refine pm_putf hC 90 fl_X12_108 rfl rfl rfl (by decide) rfl trivial dX12_leads_276 ?_
                        refine pm_aload_n hC 0 (by decide) dX12_leads_279 rfl ?_
                        refine pm_dup hC rfl dX12_leads_280 ?_
                        refine pm_getf (v := y205) hC 90 fl_X12_102 rfl rfl (by decide) rfl e206 dX12_leads_281 ?_
                        refine pm_iconst (v := 1) hC dX12_leads_284 ?_
                        refine pm_iadd hC dX12_leads_285 ?_
                        refine pm_putf hC 90 fl_X12_102 rfl rfl rfl (by decide) rfl trivial dX12_leads_286 ?_
                        refine pm_goto (tgt := 208) hC dX12_leads_289 (by decide) ?_
                        refine pm_lvsub [0, 1] (lv' := [(0, (3, 90)), (1, (0, y153))]) rfl ?_
                        exact ih204 _ (by show Int.toNat (500 - (y205 + 1)) < _; exact ow_60_32 b3 hm202 e206 c208) (pm_up (pm_up V190 90 5 y231) 90 2 (y205 + 1)) ((hV191.put 90 5 (x := y231) (lo := (-9223372036854775808)) (hi := 9223372036854775807) rfl ⟨by exact ow_60_28 b232, by exact ow_60_29 b232⟩).put 90 2 (x := (y205 + 1)) (lo := 0) (hi := 500) rfl ⟨by exact ow_60_21 b207, by exact ow_60_33 b3 c208⟩) ((hF192.upf 5 y231 rfl).upf 2 (y205 + 1) rfl) e193 e194 e195 e196 (show (y205 + 1) ≤ y1 by exact ow_60_34 c208) (hb14.trans (pf_val_inl hb200)) rfl
                      · skip
                        replace hb200 := hb200.trans (if_neg (Int.not_le.mpr c224))
                        refine pm_aload_n hC 0 (by decide) dX12_leads_246 rfl ?_
                        refine pm_getf (v := y219) hC 90 fl_X12_108 rfl rfl (by decide) rfl e220 dX12_leads_247 ?_
                        refine pm_goto (tgt := 276) hC dX12_leads_250 (by decide) ?_
                        refine pm_putf hC 90 fl_X12_108 rfl rfl rfl (by decide) rfl trivial dX12_leads_276 ?_
                        refine pm_aload_n hC 0 (by decide) dX12_leads_279 rfl ?_
                        refine pm_dup hC rfl dX12_leads_280 ?_
                        refine pm_getf (v := y205) hC 90 fl_X12_102 rfl rfl (by decide) rfl e206 dX12_leads_281 ?_
                        refine pm_iconst (v := 1) hC dX12_leads_284 ?_
                        refine pm_iadd hC dX12_leads_285 ?_
                        refine pm_putf hC 90 fl_X12_102 rfl rfl rfl (by decide) rfl trivial dX12_leads_286 ?_
                        refine pm_goto (tgt := 208) hC dX12_leads_289 (by decide) ?_
                        refine pm_lvsub [0, 1] (lv' := [(0, (3, 90)), (1, (0, y153))]) rfl ?_
                        exact ih204 _ (by show Int.toNat (500 - (y205 + 1)) < _; exact ow_60_32 b3 hm202 e206 c208) (pm_up (pm_up V190 90 5 y219) 90 2 (y205 + 1)) ((hV191.put 90 5 (x := y219) (lo := (-9223372036854775808)) (hi := 9223372036854775807) rfl ⟨by exact ow_60_28 b221, by exact ow_60_29 b221⟩).put 90 2 (x := (y205 + 1)) (lo := 0) (hi := 500) rfl ⟨by exact ow_60_21 b207, by exact ow_60_33 b3 c208⟩) ((hF192.upf 5 y219 rfl).upf 2 (y205 + 1) rfl) e193 e194 e195 e196 (show (y205 + 1) ≤ y1 by exact ow_60_34 c208) (hb14.trans (pf_val_inl hb200)) rfl
                refine pm_lvsub [1, 0] (lv' := [(0, (3, 90)), (1, (0, y153))]) rfl ?_
                exact L201 _ V180 hV182 hF183 e184 e186 e187 e189 (by (have e : V180 90 2 = y19 := e185); rw [e]; exact ow_60_27 c22) hb14 rfl
            · skip
              replace hb14 := hb14.trans (if_neg c165)
              have hV236 := (((hV8.put 90 4 (x := y19) (lo := 0) (hi := 500) rfl ⟨by exact ow_60_12 b21, by exact ow_60_45 b3 c22⟩).put 90 5 (x := 0) (lo := (-9223372036854775808)) (hi := 9223372036854775807) rfl ⟨by decide, by decide⟩).put 90 3 (x := 0) (lo := 0) (hi := 4) rfl ⟨by decide, by decide⟩)
              have hF237 := (((hF9.upf 4 y19 rfl).upf 5 0 rfl).upf 3 0 rfl)
              obtain ⟨V234, hv235⟩ : ∃ V, V = (pm_up (pm_up (pm_up V7 90 4 y19) 90 5 0) 90 3 0) := ⟨_, rfl⟩
              rw [← hv235] at hV236 hF237
              rw [← hv235]
              replace hb14 := hb14.trans (pf_let_eq hv235.symm)
              have e238 : V234 90 1 = y1 := by rw [hv235]; exact e10
              have e239 : V234 90 2 = y19 := by rw [hv235]; exact e20
              have e240 : V234 90 0 = 91 := by rw [hv235]; exact e152
              have e241 : V234 90 4 = y19 := by rw [hv235]; rfl
              have e242 : V234 90 5 = 0 := by rw [hv235]; rfl
              have e243 : V234 90 3 = 0 := by rw [hv235]; rfl
              obtain ⟨B252, hB253, hb14⟩ := pf_loop hb14
              have L255 : ∀ (N257 : Nat) (V244 : pm_M), pm_oq pm_qP V244 → pm_fs [] [2, 3, 4, 5] V0 V244 → V244 90 1 = y1 → V244 90 0 = 91 → V244 90 4 = y19 → V244 90 3 = 0 → (V244 90 2 ≤ y1) → B12 V7 = pf_val (.inr ((0 : Int), V0)) B252 V244 → (Int.toNat (500 - V244 90 2)) = N257 → pm_J X 99 [(0, (3, 90)), (1, (0, y153))] [] 118 V244 := by
                intro N257
                induction N257 using Nat.strongRecOn with
                | _ N257 ih258 =>
                intro V244 hV245 hF246 e247 e248 e249 e250 hm251 hb14 hm256
                have hb254 := congrFun hB253 V244
                refine pm_aload_n hC 0 (by decide) dX12_leads_99 rfl ?_
                obtain ⟨y259, e260⟩ : ∃ y, V244 90 2 = y := ⟨_, rfl⟩
                have b261 := hV245.get 90 2 (lo := 0) (hi := 500) (by decide) (by decide) rfl
                rw [e260] at b261
                replace hb254 := hb254.trans (pf_let_eq e260)
                refine pm_getf (v := y259) hC 90 fl_X12_102 rfl rfl (by decide) rfl e260 dX12_leads_100 ?_
                refine pm_aload_n hC 0 (by decide) dX12_leads_103 rfl ?_
                refine pm_getf (v := y1) hC 90 fl_X12_94 rfl rfl (by decide) rfl e247 dX12_leads_104 ?_
                refine pm_icmp_ge (tgt := 174) hC ⟨by exact ow_60_9 b261, by exact ow_60_10 b261⟩ ⟨by exact ow_60_9 b3, by exact ow_60_10 b3⟩ dX12_leads_107 (by decide) (fun c262 => ?_) (fun c262 => ?_)
                · skip
                  replace hb254 := hb254.trans (if_pos c262)
                  refine pm_aload_n hC 0 (by decide) dX12_leads_174 rfl ?_
                  refine pm_getf (v := y259) hC 90 fl_X12_102 rfl rfl (by decide) rfl e260 dX12_leads_175 ?_
                  refine pm_aload_n hC 0 (by decide) dX12_leads_178 rfl ?_
                  refine pm_getf (v := y19) hC 90 fl_X12_105 rfl rfl (by decide) rfl e249 dX12_leads_179 ?_
                  refine pm_isub hC dX12_leads_182 ?_
                  refine pm_bipush (v := 8) hC dX12_leads_183 (by decide) ?_
                  refine pm_icmp_le (tgt := 193) hC ⟨by exact ow_60_48 c22 c262, by exact ow_60_36 b21 b261⟩ ⟨by decide, by decide⟩ dX12_leads_185 (by decide) (fun c263 => ?_) (fun c263 => ?_)
                  · skip
                    replace hb254 := hb254.trans (if_pos c263)
                    refine pm_aload_n hC 0 (by decide) dX12_leads_193 rfl ?_
                    refine pm_iconst (v := 1) hC dX12_leads_194 ?_
                    refine pm_putf hC 90 fl_X12_112 rfl rfl rfl (by decide) rfl trivial dX12_leads_195 ?_
                    refine pm_goto (tgt := 332) hC dX12_leads_198 (by decide) ?_
                    replace hb14 := hb14.trans (pf_val_inr hb254)
                    replace hT := hT.trans (pf_val_inr hb14)
                    exact pm_vret hC hR ⟨rfl, (hV245.put 90 3 (x := 1) (lo := 0) (hi := 4) rfl ⟨by decide, by decide⟩), (hF246.upf 3 1 rfl), (by show (pm_up V244 90 3 1) 90 2 ≤ (pm_up V244 90 3 1) 90 1; rw [(show (pm_up V244 90 3 1) 90 2 = y259 from e260), (show (pm_up V244 90 3 1) 90 1 = y1 from e247)]; exact ow_60_24 hm251 e260), hT⟩ dX12_leads_332
                  · skip
                    replace hb254 := hb254.trans (if_neg (Int.not_le.mpr c263))
                    refine pm_aload_n hC 0 (by decide) dX12_leads_188 rfl ?_
                    refine pm_lconst (x := 0) hC dX12_leads_189 rfl ?_
                    refine pm_putf hC 90 fl_X12_108 rfl rfl rfl (by decide) rfl trivial dX12_leads_190 ?_
                    refine pm_aload_n hC 0 (by decide) dX12_leads_193 rfl ?_
                    refine pm_iconst (v := 1) hC dX12_leads_194 ?_
                    refine pm_putf hC 90 fl_X12_112 rfl rfl rfl (by decide) rfl trivial dX12_leads_195 ?_
                    refine pm_goto (tgt := 332) hC dX12_leads_198 (by decide) ?_
                    replace hb14 := hb14.trans (pf_val_inr hb254)
                    replace hT := hT.trans (pf_val_inr hb14)
                    exact pm_vret hC hR ⟨rfl, ((hV245.put 90 5 (x := 0) (lo := (-9223372036854775808)) (hi := 9223372036854775807) rfl ⟨by decide, by decide⟩).put 90 3 (x := 1) (lo := 0) (hi := 4) rfl ⟨by decide, by decide⟩), ((hF246.upf 5 0 rfl).upf 3 1 rfl), (by show (pm_up (pm_up V244 90 5 0) 90 3 1) 90 2 ≤ (pm_up (pm_up V244 90 5 0) 90 3 1) 90 1; rw [(show (pm_up (pm_up V244 90 5 0) 90 3 1) 90 2 = y259 from e260), (show (pm_up (pm_up V244 90 5 0) 90 3 1) 90 1 = y1 from e247)]; exact ow_60_24 hm251 e260), hT⟩ dX12_leads_332
                · skip
                  replace hb254 := hb254.trans (if_neg (Int.not_le.mpr c262))
                  refine pm_aload_n hC 0 (by decide) dX12_leads_110 rfl ?_
                  refine pm_getf (v := 91) hC 90 fl_X12_9 rfl rfl (by decide) rfl e248 dX12_leads_111 ?_
                  refine pm_aload_n hC 0 (by decide) dX12_leads_114 rfl ?_
                  refine pm_getf (v := y259) hC 90 fl_X12_102 rfl rfl (by decide) rfl e260 dX12_leads_115 ?_
                  obtain ⟨y264, e265⟩ : ∃ y, V244 91 (y259 : Int).toNat = y := ⟨_, rfl⟩
                  replace hb254 := hb254.trans (pf_let_eq e265)
                  have b266 := hV245.get 91 (y259 : Int).toNat (lo := (-128)) (hi := 127) (t := 0) (by decide) (show _ < 500 by exact ow_60_25 b3 c262) rfl
                  rw [e265] at b266
                  refine pm_baload (len := 500) (v := y264) hC 91 rfl rfl (by decide) ⟨by exact ow_60_12 b261, by exact ow_60_26 b3 c262⟩ (by decide) e265 dX12_leads_118 ?_
                  refine pm_callS (as := [(0, y264)]) (st := []) hC (fP_X12_isLetter y264 ⟨by exact ow_60_14 b266, by exact ow_60_15 b266⟩) lm_X12_115 ls_X12_isLetter (by decide) (by decide) rfl rfl (Nat.le_of_ble_eq_true rfl) ⟨Nat.le_refl _, Or.inl rfl⟩ dX12_leads_119 ⟨rfl, hV245⟩ (fun r267 V268 hp269 => ?_)
                  obtain ⟨y270, rfl, b271, rfl, hE272⟩ := hp269
                  replace hb254 := hb254.trans (pf_call_eq hE272)
                  change pm_J X 122 [(0, (3, 90)), (1, (0, y153))] [(0, y270)] 118 V244
                  refine pm_if_eq (tgt := 174) hC ⟨by exact ow_60_17 b271, by exact ow_60_18 b271⟩ dX12_leads_122 (by decide) (fun c273 => ?_) (fun c273 => ?_)
                  · skip
                    replace hb254 := hb254.trans (if_pos c273)
                    refine pm_aload_n hC 0 (by decide) dX12_leads_174 rfl ?_
                    refine pm_getf (v := y259) hC 90 fl_X12_102 rfl rfl (by decide) rfl e260 dX12_leads_175 ?_
                    refine pm_aload_n hC 0 (by decide) dX12_leads_178 rfl ?_
                    refine pm_getf (v := y19) hC 90 fl_X12_105 rfl rfl (by decide) rfl e249 dX12_leads_179 ?_
                    refine pm_isub hC dX12_leads_182 ?_
                    refine pm_bipush (v := 8) hC dX12_leads_183 (by decide) ?_
                    refine pm_icmp_le (tgt := 193) hC ⟨by exact ow_60_35 b21 b261, by exact ow_60_36 b21 b261⟩ ⟨by decide, by decide⟩ dX12_leads_185 (by decide) (fun c274 => ?_) (fun c274 => ?_)
                    · skip
                      replace hb254 := hb254.trans (if_pos c274)
                      refine pm_aload_n hC 0 (by decide) dX12_leads_193 rfl ?_
                      refine pm_iconst (v := 1) hC dX12_leads_194 ?_
                      refine pm_putf hC 90 fl_X12_112 rfl rfl rfl (by decide) rfl trivial dX12_leads_195 ?_
                      refine pm_goto (tgt := 332) hC dX12_leads_198 (by decide) ?_
                      replace hb14 := hb14.trans (pf_val_inr hb254)
                      replace hT := hT.trans (pf_val_inr hb14)
                      exact pm_vret hC hR ⟨rfl, (hV245.put 90 3 (x := 1) (lo := 0) (hi := 4) rfl ⟨by decide, by decide⟩), (hF246.upf 3 1 rfl), (by show (pm_up V244 90 3 1) 90 2 ≤ (pm_up V244 90 3 1) 90 1; rw [(show (pm_up V244 90 3 1) 90 2 = y259 from e260), (show (pm_up V244 90 3 1) 90 1 = y1 from e247)]; exact ow_60_27 c262), hT⟩ dX12_leads_332
                    · skip
                      replace hb254 := hb254.trans (if_neg (Int.not_le.mpr c274))
                      refine pm_aload_n hC 0 (by decide) dX12_leads_188 rfl ?_
                      refine pm_lconst (x := 0) hC dX12_leads_189 rfl ?_
                      refine pm_putf hC 90 fl_X12_108 rfl rfl rfl (by decide) rfl trivial dX12_leads_190 ?_
                      refine pm_aload_n hC 0 (by decide) dX12_leads_193 rfl ?_
                      refine pm_iconst (v := 1) hC dX12_leads_194 ?_
                      refine pm_putf hC 90 fl_X12_112 rfl rfl rfl (by decide) rfl trivial dX12_leads_195 ?_
                      refine pm_goto (tgt := 332) hC dX12_leads_198 (by decide) ?_
                      replace hb14 := hb14.trans (pf_val_inr hb254)
                      replace hT := hT.trans (pf_val_inr hb14)
                      exact pm_vret hC hR ⟨rfl, ((hV245.put 90 5 (x := 0) (lo := (-9223372036854775808)) (hi := 9223372036854775807) rfl ⟨by decide, by decide⟩).put 90 3 (x := 1) (lo := 0) (hi := 4) rfl ⟨by decide, by decide⟩), ((hF246.upf 5 0 rfl).upf 3 1 rfl), (by show (pm_up (pm_up V244 90 5 0) 90 3 1) 90 2 ≤ (pm_up (pm_up V244 90 5 0) 90 3 1) 90 1; rw [(show (pm_up (pm_up V244 90 5 0) 90 3 1) 90 2 = y259 from e260), (show (pm_up (pm_up V244 90 5 0) 90 3 1) 90 1 = y1 from e247)]; exact ow_60_27 c262), hT⟩ dX12_leads_332
                  · skip
                    replace hb254 := hb254.trans (if_neg c273)
                    refine pm_aload_n hC 0 (by decide) dX12_leads_125 rfl ?_
                    refine pm_getf (v := y259) hC 90 fl_X12_102 rfl rfl (by decide) rfl e260 dX12_leads_126 ?_
                    refine pm_aload_n hC 0 (by decide) dX12_leads_129 rfl ?_
                    refine pm_getf (v := y19) hC 90 fl_X12_105 rfl rfl (by decide) rfl e249 dX12_leads_130 ?_
                    refine pm_isub hC dX12_leads_133 ?_
                    refine pm_bipush (v := 8) hC dX12_leads_134 (by decide) ?_
                    refine pm_icmp_ge (tgt := 161) hC ⟨by exact ow_60_35 b21 b261, by exact ow_60_36 b21 b261⟩ ⟨by decide, by decide⟩ dX12_leads_136 (by decide) (fun c275 => ?_) (fun c275 => ?_)
                    · skip
                      replace hb254 := hb254.trans (if_pos c275)
                      refine pm_aload_n hC 0 (by decide) dX12_leads_161 rfl ?_
                      refine pm_dup hC rfl dX12_leads_162 ?_
                      refine pm_getf (v := y259) hC 90 fl_X12_102 rfl rfl (by decide) rfl e260 dX12_leads_163 ?_
                      refine pm_iconst (v := 1) hC dX12_leads_166 ?_
                      refine pm_iadd hC dX12_leads_167 ?_
                      refine pm_putf hC 90 fl_X12_102 rfl rfl rfl (by decide) rfl trivial dX12_leads_168 ?_
                      refine pm_goto (tgt := 99) hC dX12_leads_171 (by decide) ?_
                      refine pm_lvsub [0, 1] (lv' := [(0, (3, 90)), (1, (0, y153))]) rfl ?_
                      exact ih258 _ (by show Int.toNat (500 - (y259 + 1)) < _; exact ow_60_32 b3 hm256 e260 c262) (pm_up V244 90 2 (y259 + 1)) (hV245.put 90 2 (x := (y259 + 1)) (lo := 0) (hi := 500) rfl ⟨by exact ow_60_41 b21 c275, by exact ow_60_33 b3 c262⟩) (hF246.upf 2 (y259 + 1) rfl) e247 e248 e249 e250 (show (y259 + 1) ≤ y1 by exact ow_60_34 c262) (hb14.trans (pf_val_inl hb254)) rfl
                    · skip
                      replace hb254 := hb254.trans (if_neg (Int.not_le.mpr c275))
                      refine pm_aload_n hC 0 (by decide) dX12_leads_139 rfl ?_
                      refine pm_aload_n hC 0 (by decide) dX12_leads_140 rfl ?_
                      obtain ⟨y276, e277⟩ : ∃ y, V244 90 5 = y := ⟨_, rfl⟩
                      have b278 := hV245.get 90 5 (lo := (-9223372036854775808)) (hi := 9223372036854775807) (by decide) (by decide) rfl
                      rw [e277] at b278
                      replace hb254 := hb254.trans (pf_let_eq e277)
                      refine pm_getf (v := y276) hC 90 fl_X12_108 rfl rfl (by decide) rfl e277 dX12_leads_141 ?_
                      refine pm_bipush (v := 8) hC dX12_leads_144 (by decide) ?_
                      refine pm_lshl hC dX12_leads_146 ?_
                      have b280 := pm_lshlr y276 8
                      obtain ⟨y279, hey279⟩ : ∃ z, (pm_lshlV y276 8) = z := ⟨_, rfl⟩
                      rw [hey279] at b280 ⊢
                      replace hb254 := hb254.trans (pf_let_eq hey279)
                      refine pm_aload_n hC 0 (by decide) dX12_leads_147 rfl ?_
                      refine pm_getf (v := 91) hC 90 fl_X12_9 rfl rfl (by decide) rfl e248 dX12_leads_148 ?_
                      refine pm_aload_n hC 0 (by decide) dX12_leads_151 rfl ?_
                      refine pm_getf (v := y259) hC 90 fl_X12_102 rfl rfl (by decide) rfl e260 dX12_leads_152 ?_
                      refine pm_baload (len := 500) (v := y264) hC 91 rfl rfl (by decide) ⟨by exact ow_60_12 b261, by exact ow_60_26 b3 c262⟩ (by decide) e265 dX12_leads_155 ?_
                      refine pm_i2l hC ⟨by exact ow_60_14 b266, by exact ow_60_15 b266⟩ dX12_leads_156 ?_
                      refine pm_lor hC dX12_leads_157 ?_
                      have b282 := pm_lorr y279 y264
                      obtain ⟨y281, hey281⟩ : ∃ z, (pm_lorV y279 y264) = z := ⟨_, rfl⟩
                      rw [hey281] at b282 ⊢
                      replace hb254 := hb254.trans (pf_let_eq hey281)
                      refine pm_putf hC 90 fl_X12_108 rfl rfl rfl (by decide) rfl trivial dX12_leads_158 ?_
                      refine pm_aload_n hC 0 (by decide) dX12_leads_161 rfl ?_
                      refine pm_dup hC rfl dX12_leads_162 ?_
                      refine pm_getf (v := y259) hC 90 fl_X12_102 rfl rfl (by decide) rfl e260 dX12_leads_163 ?_
                      refine pm_iconst (v := 1) hC dX12_leads_166 ?_
                      refine pm_iadd hC dX12_leads_167 ?_
                      refine pm_putf hC 90 fl_X12_102 rfl rfl rfl (by decide) rfl trivial dX12_leads_168 ?_
                      refine pm_goto (tgt := 99) hC dX12_leads_171 (by decide) ?_
                      refine pm_lvsub [0, 1] (lv' := [(0, (3, 90)), (1, (0, y153))]) rfl ?_
                      exact ih258 _ (by show Int.toNat (500 - (y259 + 1)) < _; exact ow_60_32 b3 hm256 e260 c262) (pm_up (pm_up V244 90 5 y281) 90 2 (y259 + 1)) ((hV245.put 90 5 (x := y281) (lo := (-9223372036854775808)) (hi := 9223372036854775807) rfl ⟨by exact ow_60_28 b282, by exact ow_60_29 b282⟩).put 90 2 (x := (y259 + 1)) (lo := 0) (hi := 500) rfl ⟨by exact ow_60_21 b261, by exact ow_60_33 b3 c262⟩) ((hF246.upf 5 y281 rfl).upf 2 (y259 + 1) rfl) e247 e248 e249 e250 (show (y259 + 1) ≤ y1 by exact ow_60_34 c262) (hb14.trans (pf_val_inl hb254)) rfl
              refine pm_lvsub [1, 0] (lv' := [(0, (3, 90)), (1, (0, y153))]) rfl ?_
              exact L255 _ V234 hV236 hF237 e238 e240 e241 e243 (by (have e : V234 90 2 = y19 := e239); rw [e]; exact ow_60_27 c22) hb14 rfl
          · skip
            replace hb14 := hb14.trans (if_neg (fun q => q c158))
            replace hT := hT.trans (pf_val_inr hb14)
            exact pm_vret hC hR ⟨rfl, (((hV8.put 90 4 (x := y19) (lo := 0) (hi := 500) rfl ⟨by exact ow_60_49 c22 c158, by exact ow_60_45 b3 c22⟩).put 90 5 (x := 0) (lo := (-9223372036854775808)) (hi := 9223372036854775807) rfl ⟨by decide, by decide⟩).put 90 3 (x := 0) (lo := 0) (hi := 4) rfl ⟨by decide, by decide⟩), (((hF9.upf 4 y19 rfl).upf 5 0 rfl).upf 3 0 rfl), (by show (pm_up (pm_up (pm_up V7 90 4 y19) 90 5 0) 90 3 0) 90 2 ≤ (pm_up (pm_up (pm_up V7 90 4 y19) 90 5 0) 90 3 0) 90 1; rw [(show (pm_up (pm_up (pm_up V7 90 4 y19) 90 5 0) 90 3 0) 90 2 = y19 from e20), (show (pm_up (pm_up (pm_up V7 90 4 y19) 90 5 0) 90 3 0) 90 1 = y1 from e10)]; exact ow_60_27 c22), hT⟩ dX12_leads_81
        · skip
          replace hb14 := hb14.trans (if_neg (fun q => q c157))
          refine pm_aload_n hC 0 (by decide) dX12_leads_39 rfl ?_
          refine pm_dup hC rfl dX12_leads_40 ?_
          refine pm_getf (v := y19) hC 90 fl_X12_102 rfl rfl (by decide) rfl e20 dX12_leads_41 ?_
          refine pm_iconst (v := 1) hC dX12_leads_44 ?_
          refine pm_iadd hC dX12_leads_45 ?_
          refine pm_putf hC 90 fl_X12_102 rfl rfl rfl (by decide) rfl trivial dX12_leads_46 ?_
          refine pm_goto (tgt := 0) hC dX12_leads_49 (by decide) ?_
          refine pm_lvsub [0] (lv' := [(0, (3, 90))]) rfl ?_
          exact ih18 _ (by show Int.toNat (500 - (y19 + 1)) < _; exact ow_60_32 b3 hm16 e20 c22) (pm_up V7 90 2 (y19 + 1)) (hV8.put 90 2 (x := (y19 + 1)) (lo := 0) (hi := 500) rfl ⟨by exact ow_60_21 b21, by exact ow_60_33 b3 c22⟩) (hF9.upf 2 (y19 + 1) rfl) e10 (show (y19 + 1) ≤ y1 by exact ow_60_34 c22) (hT.trans (pf_val_inl hb14)) rfl
  refine pm_lvsub [0] (lv' := [(0, (3, 90))]) rfl ?_
  exact L15 _ V0 hV0 (pm_fs.rf (cs := []) (fs := [2, 3, 4, 5]) (V := V0)) e2 (by (have e : V0 90 2 = y4 := e5); rw [e]; exact ow_60_50 hsz) hT rfl
set_option maxHeartbeats 4000000 in
set_option maxRecDepth 100000 in
theorem fP_X12_isWord (a1 : Int) (h0 : 0 ≤ a1 ∧ a1 ≤ 17) : pm_K 5 yX12_isWord cX12_isWord 2 (some .boolean) (fun av V => av = [(3, 90), (4, a1)] ∧ pm_oq pm_qP V) (fun _ V r V' => ∃ y, r = some (0, y) ∧ (0 ≤ y ∧ y ≤ 1 ∧ (y = 1 → V 90 3 = 1)) ∧ V = V' ∧ F_X12_isWord a1 V = (y, V)) := by
  refine pm_MT.of (by decide) ⟨Nat.le_refl _, by decide⟩ (fun av V h => by rw [h.1]; exact (by decide : pm_words [(3, 0), (4, 0)] ≤ 2)) ?_
  rintro X av V0 hC - hR ⟨rfl, hV0⟩
  change pm_J X 0 [(0, (3, 90)), (1, (4, a1))] [] 118 V0
  have hT := F_X12_isWord_eq a1 V0
  refine pm_aload_n hC 0 (by decide) dX12_isWord_0 rfl ?_
  obtain ⟨y1, e2⟩ : ∃ y, V0 90 3 = y := ⟨_, rfl⟩
  have b3 := hV0.get 90 3 (lo := 0) (hi := 4) (by decide) (by decide) rfl
  rw [e2] at b3
  replace hT := hT.trans (pf_let_eq e2)
  refine pm_getf (v := y1) hC 90 fl_X12_112 rfl rfl (by decide) rfl e2 dX12_isWord_1 ?_
  refine pm_iconst (v := 1) hC dX12_isWord_4 ?_
  refine pm_icmp_ne (tgt := 24) hC ⟨by exact ow_60_51 b3, by exact ow_60_52 b3⟩ ⟨by decide, by decide⟩ dX12_isWord_5 (by decide) (fun c4 => ?_) (fun c4 => ?_)
  · skip
    replace hT := hT.trans (if_pos c4)
    refine pm_iconst (v := 0) hC dX12_isWord_24 ?_
    exact pm_iret hC hR (pm_narZ (by exact ow_60_2)) ⟨0, rfl, ⟨by exact ow_60_3, by exact ow_60_4, by exact ow_60_53⟩, rfl, hT⟩ dX12_isWord_25
  · skip
    replace hT := hT.trans (if_neg (fun q => q c4))
    refine pm_aload_n hC 0 (by decide) dX12_isWord_8 rfl ?_
    obtain ⟨y5, e6⟩ : ∃ y, V0 90 5 = y := ⟨_, rfl⟩
    have b7 := hV0.get 90 5 (lo := (-9223372036854775808)) (hi := 9223372036854775807) (by decide) (by decide) rfl
    rw [e6] at b7
    replace hT := hT.trans (pf_let_eq e6)
    refine pm_getf (v := y5) hC 90 fl_X12_108 rfl rfl (by decide) rfl e6 dX12_isWord_9 ?_
    refine pm_aloadS hC 1 (by decide) dX12_isWord_12 rfl ?_
    refine pm_callS (as := [(4, a1)]) (st := [(1, y5)]) hC (c_packed (a := a1) ⟨by exact ow_60_54 h0, by exact ow_60_55 h0⟩) lm_X12_141 ls_X12_packed (by decide) (by decide) rfl rfl (Nat.le_of_ble_eq_true rfl) ⟨Nat.le_refl _, Or.inl rfl⟩ dX12_isWord_13 rfl (fun r10 V11 hp12 => ?_)
    obtain ⟨rfl, rfl⟩ := hp12
    obtain ⟨y8, e9⟩ : ∃ y, pm_pk (a1 : Int).toNat = y := ⟨_, rfl⟩
    have b13 := pm_pk_r (a1 : Int).toNat
    rw [e9] at b13
    change pm_J X 16 [(0, (3, 90)), (1, (4, a1))] [(1, pm_pk (a1 : Int).toNat), (1, y5)] 118 V0
    rw [e9]
    replace hT := hT.trans (pf_let_eq e9)
    refine pm_lcmp hC ⟨by exact ow_60_28 b7, by exact ow_60_29 b7⟩ ⟨by exact ow_60_28 b13, by exact ow_60_29 b13⟩ dX12_isWord_16 (fun y14 b15 => ?_)
    replace hT := hT.trans (pf_let_eq (pm_cmp_u b15))
    refine pm_if_ne (tgt := 24) hC ⟨by exact ow_60_56 b15, by exact ow_60_57 b15⟩ dX12_isWord_17 (by decide) (fun c16 => ?_) (fun c16 => ?_)
    · skip
      replace hT := hT.trans (if_pos c16)
      refine pm_iconst (v := 0) hC dX12_isWord_24 ?_
      exact pm_iret hC hR (pm_narZ (by exact ow_60_2)) ⟨0, rfl, ⟨by exact ow_60_3, by exact ow_60_4, by exact ow_60_53⟩, rfl, hT⟩ dX12_isWord_25
    · skip
      replace hT := hT.trans (if_neg (fun q => q c16))
      refine pm_iconst (v := 1) hC dX12_isWord_20 ?_
      refine pm_goto (tgt := 25) hC dX12_isWord_21 (by decide) ?_
      exact pm_iret hC hR (pm_narZ (by exact ow_60_6)) ⟨1, rfl, ⟨by exact ow_60_4, by exact ow_60_7, by exact ow_60_58 e2 c4⟩, rfl, hT⟩ dX12_isWord_25
set_option maxHeartbeats 4000000 in
set_option maxRecDepth 100000 in
theorem fP_X12_isSign (a1 : Int) (h0 : 0 ≤ a1 ∧ a1 ≤ 255) : pm_K 1 yX12_isSign cX12_isSign 2 (some .boolean) (fun av V => av = [(3, 90), (0, a1)] ∧ pm_oq pm_qP V) (fun _ V r V' => ∃ y, r = some (0, y) ∧ (0 ≤ y ∧ y ≤ 1 ∧ (y = 1 → V 90 3 = 3)) ∧ V = V' ∧ F_X12_isSign a1 V = (y, V)) := by
  refine pm_MT.of (by decide) ⟨Nat.le_refl _, by decide⟩ (fun av V h => by rw [h.1]; exact (by decide : pm_words [(3, 0), (0, 0)] ≤ 2)) ?_
  rintro X av V0 hC - hR ⟨rfl, hV0⟩
  change pm_J X 0 [(0, (3, 90)), (1, (0, a1))] [] 118 V0
  have hT := F_X12_isSign_eq a1 V0
  refine pm_aload_n hC 0 (by decide) dX12_isSign_0 rfl ?_
  obtain ⟨y1, e2⟩ : ∃ y, V0 90 3 = y := ⟨_, rfl⟩
  have b3 := hV0.get 90 3 (lo := 0) (hi := 4) (by decide) (by decide) rfl
  rw [e2] at b3
  replace hT := hT.trans (pf_let_eq e2)
  refine pm_getf (v := y1) hC 90 fl_X12_112 rfl rfl (by decide) rfl e2 dX12_isSign_1 ?_
  refine pm_iconst (v := 3) hC dX12_isSign_4 ?_
  refine pm_icmp_ne (tgt := 22) hC ⟨by exact ow_60_51 b3, by exact ow_60_52 b3⟩ ⟨by decide, by decide⟩ dX12_isSign_5 (by decide) (fun c4 => ?_) (fun c4 => ?_)
  · skip
    replace hT := hT.trans (if_pos c4)
    refine pm_iconst (v := 0) hC dX12_isSign_22 ?_
    exact pm_iret hC hR (pm_narZ (by exact ow_60_2)) ⟨0, rfl, ⟨by exact ow_60_3, by exact ow_60_4, by exact ow_60_59⟩, rfl, hT⟩ dX12_isSign_23
  · skip
    replace hT := hT.trans (if_neg (fun q => q c4))
    refine pm_aload_n hC 0 (by decide) dX12_isSign_8 rfl ?_
    obtain ⟨y5, e6⟩ : ∃ y, V0 90 5 = y := ⟨_, rfl⟩
    have b7 := hV0.get 90 5 (lo := (-9223372036854775808)) (hi := 9223372036854775807) (by decide) (by decide) rfl
    rw [e6] at b7
    replace hT := hT.trans (pf_let_eq e6)
    refine pm_getf (v := y5) hC 90 fl_X12_108 rfl rfl (by decide) rfl e6 dX12_isSign_9 ?_
    refine pm_iload_n hC 1 dX12_isSign_12 rfl ?_
    refine pm_i2l hC ⟨by exact ow_60_60 h0, by exact ow_60_61 h0⟩ dX12_isSign_13 ?_
    refine pm_lcmp hC ⟨by exact ow_60_28 b7, by exact ow_60_29 b7⟩ ⟨by exact ow_60_62 h0, by exact ow_60_63 h0⟩ dX12_isSign_14 (fun y8 b9 => ?_)
    replace hT := hT.trans (pf_let_eq (pm_cmp_u b9))
    refine pm_if_ne (tgt := 22) hC ⟨by exact ow_60_56 b9, by exact ow_60_57 b9⟩ dX12_isSign_15 (by decide) (fun c10 => ?_) (fun c10 => ?_)
    · skip
      replace hT := hT.trans (if_pos c10)
      refine pm_iconst (v := 0) hC dX12_isSign_22 ?_
      exact pm_iret hC hR (pm_narZ (by exact ow_60_2)) ⟨0, rfl, ⟨by exact ow_60_3, by exact ow_60_4, by exact ow_60_59⟩, rfl, hT⟩ dX12_isSign_23
    · skip
      replace hT := hT.trans (if_neg (fun q => q c10))
      refine pm_iconst (v := 1) hC dX12_isSign_18 ?_
      refine pm_goto (tgt := 23) hC dX12_isSign_19 (by decide) ?_
      exact pm_iret hC hR (pm_narZ (by exact ow_60_6)) ⟨1, rfl, ⟨by exact ow_60_4, by exact ow_60_7, by exact ow_60_64 e2 c4⟩, rfl, hT⟩ dX12_isSign_23
set_option maxHeartbeats 4000000 in
set_option maxRecDepth 100000 in
theorem fP_X12_isName  : pm_K 6 yX12_isName cX12_isName 1 (some .boolean) (fun av V => av = [(3, 90)] ∧ pm_oq pm_qP V) (fun _ V r V' => ∃ y, r = some (0, y) ∧ (0 ≤ y ∧ y ≤ 1) ∧ V = V' ∧ F_X12_isName  V = (y, V)) := by
  refine pm_MT.of (by decide) ⟨Nat.le_refl _, by decide⟩ (fun av V h => by rw [h.1]; exact (by decide : pm_words [(3, 0)] ≤ 1)) ?_
  rintro X av V0 hC - hR ⟨rfl, hV0⟩
  change pm_J X 0 [(0, (3, 90))] [] 118 V0
  have hT := F_X12_isName_eq  V0
  refine pm_aload_n hC 0 (by decide) dX12_isName_0 rfl ?_
  obtain ⟨y1, e2⟩ : ∃ y, V0 90 3 = y := ⟨_, rfl⟩
  have b3 := hV0.get 90 3 (lo := 0) (hi := 4) (by decide) (by decide) rfl
  rw [e2] at b3
  replace hT := hT.trans (pf_let_eq e2)
  refine pm_getf (v := y1) hC 90 fl_X12_112 rfl rfl (by decide) rfl e2 dX12_isName_1 ?_
  refine pm_iconst (v := 1) hC dX12_isName_4 ?_
  refine pm_icmp_ne (tgt := 75) hC ⟨by exact ow_60_51 b3, by exact ow_60_52 b3⟩ ⟨by decide, by decide⟩ dX12_isName_5 (by decide) (fun c4 => ?_) (fun c4 => ?_)
  · skip
    replace hT := hT.trans (if_pos c4)
    refine pm_iconst (v := 0) hC dX12_isName_75 ?_
    exact pm_iret hC hR (pm_narZ (by exact ow_60_2)) ⟨0, rfl, ⟨by exact ow_60_3, by exact ow_60_4⟩, rfl, hT⟩ dX12_isName_76
  · skip
    replace hT := hT.trans (if_neg (fun q => q c4))
    refine pm_aload_n hC 0 (by decide) dX12_isName_8 rfl ?_
    obtain ⟨y5, e6⟩ : ∃ y, V0 90 5 = y := ⟨_, rfl⟩
    have b7 := hV0.get 90 5 (lo := (-9223372036854775808)) (hi := 9223372036854775807) (by decide) (by decide) rfl
    rw [e6] at b7
    replace hT := hT.trans (pf_let_eq e6)
    refine pm_getf (v := y5) hC 90 fl_X12_108 rfl rfl (by decide) rfl e6 dX12_isName_9 ?_
    refine pm_lconst (x := 0) hC dX12_isName_12 rfl ?_
    refine pm_lcmp hC ⟨by exact ow_60_28 b7, by exact ow_60_29 b7⟩ ⟨by decide, by decide⟩ dX12_isName_13 (fun y8 b9 => ?_)
    replace hT := hT.trans (pf_let_eq (pm_cmp_u b9))
    refine pm_if_eq (tgt := 75) hC ⟨by exact ow_60_65 b9, by exact ow_60_66 b9⟩ dX12_isName_14 (by decide) (fun c10 => ?_) (fun c10 => ?_)
    · skip
      replace hT := hT.trans (if_pos c10)
      refine pm_iconst (v := 0) hC dX12_isName_75 ?_
      exact pm_iret hC hR (pm_narZ (by exact ow_60_2)) ⟨0, rfl, ⟨by exact ow_60_3, by exact ow_60_4⟩, rfl, hT⟩ dX12_isName_76
    · skip
      replace hT := hT.trans (if_neg c10)
      refine pm_aload_n hC 0 (by decide) dX12_isName_17 rfl ?_
      refine pm_ldcS (tx := "sound") (q := 0) hC (by decide) dX12_isName_18 ?_
      change pm_J X 20 [(0, (3, 90))] [(4, 0), (3, 90)] 118 V0
      refine pm_callV (ci := 12) (as := [(4, 0)]) (st := []) hC 90 (fP_X12_isWord 0 ⟨by decide, by decide⟩) lm_X12_156 li_X12_isWord (by decide) (by decide) rfl rfl rfl (by decide) rfl rfl (Nat.le_of_ble_eq_true rfl) ⟨Nat.le_refl _, Or.inl rfl⟩ dX12_isName_20 ⟨rfl, hV0⟩ (fun r11 V12 hp13 => ?_)
      obtain ⟨y14, rfl, b15, rfl, hE16⟩ := hp13
      replace hT := hT.trans (pf_call_eq hE16)
      change pm_J X 23 [(0, (3, 90))] [(0, y14)] 118 V0
      refine pm_if_ne (tgt := 75) hC ⟨by exact ow_60_67 b15, by exact ow_60_68 b15⟩ dX12_isName_23 (by decide) (fun c17 => ?_) (fun c17 => ?_)
      · skip
        replace hT := hT.trans (if_pos c17)
        refine pm_iconst (v := 0) hC dX12_isName_75 ?_
        exact pm_iret hC hR (pm_narZ (by exact ow_60_2)) ⟨0, rfl, ⟨by exact ow_60_3, by exact ow_60_4⟩, rfl, hT⟩ dX12_isName_76
      · skip
        replace hT := hT.trans (if_neg (fun q => q c17))
        refine pm_aload_n hC 0 (by decide) dX12_isName_26 rfl ?_
        refine pm_ldcS (tx := "voice") (q := 1) hC (by decide) dX12_isName_27 ?_
        change pm_J X 29 [(0, (3, 90))] [(4, 1), (3, 90)] 118 V0
        refine pm_callV (ci := 12) (as := [(4, 1)]) (st := []) hC 90 (fP_X12_isWord 1 ⟨by decide, by decide⟩) lm_X12_156 li_X12_isWord (by decide) (by decide) rfl rfl rfl (by decide) rfl rfl (Nat.le_of_ble_eq_true rfl) ⟨Nat.le_refl _, Or.inl rfl⟩ dX12_isName_29 ⟨rfl, hV0⟩ (fun r18 V19 hp20 => ?_)
        obtain ⟨y21, rfl, b22, rfl, hE23⟩ := hp20
        replace hT := hT.trans (pf_call_eq hE23)
        change pm_J X 32 [(0, (3, 90))] [(0, y21)] 118 V0
        refine pm_if_ne (tgt := 75) hC ⟨by exact ow_60_67 b22, by exact ow_60_68 b22⟩ dX12_isName_32 (by decide) (fun c24 => ?_) (fun c24 => ?_)
        · skip
          replace hT := hT.trans (if_pos c24)
          refine pm_iconst (v := 0) hC dX12_isName_75 ?_
          exact pm_iret hC hR (pm_narZ (by exact ow_60_2)) ⟨0, rfl, ⟨by exact ow_60_3, by exact ow_60_4⟩, rfl, hT⟩ dX12_isName_76
        · skip
          replace hT := hT.trans (if_neg (fun q => q c24))
          refine pm_aload_n hC 0 (by decide) dX12_isName_35 rfl ?_
          refine pm_ldcS (tx := "face") (q := 2) hC (by decide) dX12_isName_36 ?_
          change pm_J X 38 [(0, (3, 90))] [(4, 2), (3, 90)] 118 V0
          refine pm_callV (ci := 12) (as := [(4, 2)]) (st := []) hC 90 (fP_X12_isWord 2 ⟨by decide, by decide⟩) lm_X12_156 li_X12_isWord (by decide) (by decide) rfl rfl rfl (by decide) rfl rfl (Nat.le_of_ble_eq_true rfl) ⟨Nat.le_refl _, Or.inl rfl⟩ dX12_isName_38 ⟨rfl, hV0⟩ (fun r25 V26 hp27 => ?_)
          obtain ⟨y28, rfl, b29, rfl, hE30⟩ := hp27
          replace hT := hT.trans (pf_call_eq hE30)
          change pm_J X 41 [(0, (3, 90))] [(0, y28)] 118 V0
          refine pm_if_ne (tgt := 75) hC ⟨by exact ow_60_67 b29, by exact ow_60_68 b29⟩ dX12_isName_41 (by decide) (fun c31 => ?_) (fun c31 => ?_)
          · skip
            replace hT := hT.trans (if_pos c31)
            refine pm_iconst (v := 0) hC dX12_isName_75 ?_
            exact pm_iret hC hR (pm_narZ (by exact ow_60_2)) ⟨0, rfl, ⟨by exact ow_60_3, by exact ow_60_4⟩, rfl, hT⟩ dX12_isName_76
          · skip
            replace hT := hT.trans (if_neg (fun q => q c31))
            refine pm_aload_n hC 0 (by decide) dX12_isName_44 rfl ?_
            refine pm_ldcS (tx := "odds") (q := 3) hC (by decide) dX12_isName_45 ?_
            change pm_J X 47 [(0, (3, 90))] [(4, 3), (3, 90)] 118 V0
            refine pm_callV (ci := 12) (as := [(4, 3)]) (st := []) hC 90 (fP_X12_isWord 3 ⟨by decide, by decide⟩) lm_X12_156 li_X12_isWord (by decide) (by decide) rfl rfl rfl (by decide) rfl rfl (Nat.le_of_ble_eq_true rfl) ⟨Nat.le_refl _, Or.inl rfl⟩ dX12_isName_47 ⟨rfl, hV0⟩ (fun r32 V33 hp34 => ?_)
            obtain ⟨y35, rfl, b36, rfl, hE37⟩ := hp34
            replace hT := hT.trans (pf_call_eq hE37)
            change pm_J X 50 [(0, (3, 90))] [(0, y35)] 118 V0
            refine pm_if_ne (tgt := 75) hC ⟨by exact ow_60_67 b36, by exact ow_60_68 b36⟩ dX12_isName_50 (by decide) (fun c38 => ?_) (fun c38 => ?_)
            · skip
              replace hT := hT.trans (if_pos c38)
              refine pm_iconst (v := 0) hC dX12_isName_75 ?_
              exact pm_iret hC hR (pm_narZ (by exact ow_60_2)) ⟨0, rfl, ⟨by exact ow_60_3, by exact ow_60_4⟩, rfl, hT⟩ dX12_isName_76
            · skip
              replace hT := hT.trans (if_neg (fun q => q c38))
              refine pm_aload_n hC 0 (by decide) dX12_isName_53 rfl ?_
              refine pm_ldcS (tx := "hold") (q := 4) hC (by decide) dX12_isName_54 ?_
              change pm_J X 56 [(0, (3, 90))] [(4, 4), (3, 90)] 118 V0
              refine pm_callV (ci := 12) (as := [(4, 4)]) (st := []) hC 90 (fP_X12_isWord 4 ⟨by decide, by decide⟩) lm_X12_156 li_X12_isWord (by decide) (by decide) rfl rfl rfl (by decide) rfl rfl (Nat.le_of_ble_eq_true rfl) ⟨Nat.le_refl _, Or.inl rfl⟩ dX12_isName_56 ⟨rfl, hV0⟩ (fun r39 V40 hp41 => ?_)
              obtain ⟨y42, rfl, b43, rfl, hE44⟩ := hp41
              replace hT := hT.trans (pf_call_eq hE44)
              change pm_J X 59 [(0, (3, 90))] [(0, y42)] 118 V0
              refine pm_if_ne (tgt := 75) hC ⟨by exact ow_60_67 b43, by exact ow_60_68 b43⟩ dX12_isName_59 (by decide) (fun c45 => ?_) (fun c45 => ?_)
              · skip
                replace hT := hT.trans (if_pos c45)
                refine pm_iconst (v := 0) hC dX12_isName_75 ?_
                exact pm_iret hC hR (pm_narZ (by exact ow_60_2)) ⟨0, rfl, ⟨by exact ow_60_3, by exact ow_60_4⟩, rfl, hT⟩ dX12_isName_76
              · skip
                replace hT := hT.trans (if_neg (fun q => q c45))
                refine pm_aload_n hC 0 (by decide) dX12_isName_62 rfl ?_
                refine pm_ldcS (tx := "learn") (q := 5) hC (by decide) dX12_isName_63 ?_
                change pm_J X 65 [(0, (3, 90))] [(4, 5), (3, 90)] 118 V0
                refine pm_callV (ci := 12) (as := [(4, 5)]) (st := []) hC 90 (fP_X12_isWord 5 ⟨by decide, by decide⟩) lm_X12_156 li_X12_isWord (by decide) (by decide) rfl rfl rfl (by decide) rfl rfl (Nat.le_of_ble_eq_true rfl) ⟨Nat.le_refl _, Or.inl rfl⟩ dX12_isName_65 ⟨rfl, hV0⟩ (fun r46 V47 hp48 => ?_)
                obtain ⟨y49, rfl, b50, rfl, hE51⟩ := hp48
                replace hT := hT.trans (pf_call_eq hE51)
                change pm_J X 68 [(0, (3, 90))] [(0, y49)] 118 V0
                refine pm_if_ne (tgt := 75) hC ⟨by exact ow_60_67 b50, by exact ow_60_68 b50⟩ dX12_isName_68 (by decide) (fun c52 => ?_) (fun c52 => ?_)
                · skip
                  replace hT := hT.trans (if_pos c52)
                  refine pm_iconst (v := 0) hC dX12_isName_75 ?_
                  exact pm_iret hC hR (pm_narZ (by exact ow_60_2)) ⟨0, rfl, ⟨by exact ow_60_3, by exact ow_60_4⟩, rfl, hT⟩ dX12_isName_76
                · skip
                  replace hT := hT.trans (if_neg (fun q => q c52))
                  refine pm_iconst (v := 1) hC dX12_isName_71 ?_
                  refine pm_goto (tgt := 76) hC dX12_isName_72 (by decide) ?_
                  exact pm_iret hC hR (pm_narZ (by exact ow_60_6)) ⟨1, rfl, ⟨by exact ow_60_4, by exact ow_60_7⟩, rfl, hT⟩ dX12_isName_76
