noncomputable def F_X0_isNever (ch : Nat) (V0 : pm_M) : Int × pm_M := pf_val ((0 : Int), V0) (fun (q : Int) => match q with | x1 => (pf_let (V0 ch 0) fun y10 => (if y10 ≤ x1 then ((.inr (0, V0))) else (pf_let (V0 (ch + 1) (x1 : Int).toNat) fun y15 => pf_let (pm_cmp y15 0) fun y18 => (if 0 < y18 then (pf_let (x1 + 1) fun x21 => (.inl x21)) else ((.inr (1, V0)))))))) 0
theorem F_X0_isNever_eq (ch : Nat) (V0 : pm_M) : F_X0_isNever ch V0 = pf_val ((0 : Int), V0) (fun (q : Int) => match q with | x1 => (pf_let (V0 ch 0) fun y10 => (if y10 ≤ x1 then ((.inr (0, V0))) else (pf_let (V0 (ch + 1) (x1 : Int).toNat) fun y15 => pf_let (pm_cmp y15 0) fun y18 => (if 0 < y18 then (pf_let (x1 + 1) fun x21 => (.inl x21)) else ((.inr (1, V0)))))))) 0 := rfl
noncomputable def F_X4_factorOf (cl : Nat) (cr : Nat) (a1 : Int) (V0 : pm_M) : Int × pm_M := (if ¬ ((a1 % 2) = 0) then (pf_let (V0 (cr + 2) ((a1 / 2) : Int).toNat) fun y3 => pf_let (pm_mx 1 y3) fun y6 => (y6, V0)) else (pf_let (V0 (cl + 1) ((a1 / 2) : Int).toNat) fun y10 => pf_let (pm_mx 1 y10) fun y13 => (y13, V0)))
theorem F_X4_factorOf_eq (cl : Nat) (cr : Nat) (a1 : Int) (V0 : pm_M) : F_X4_factorOf cl cr a1 V0 = (if ¬ ((a1 % 2) = 0) then (pf_let (V0 (cr + 2) ((a1 / 2) : Int).toNat) fun y3 => pf_let (pm_mx 1 y3) fun y6 => (y6, V0)) else (pf_let (V0 (cl + 1) ((a1 / 2) : Int).toNat) fun y10 => pf_let (pm_mx 1 y10) fun y13 => (y13, V0))) := rfl
noncomputable def F_X4_roughQuotient (cl : Nat) (cr : Nat) (a1 : Int) (V0 : pm_M) : Int × pm_M := pf_val ((0 : Int), V0) (fun (q : Int × Int × Int × Int) => match q with | (x1, x3, x5, x7) => ((if (4 * a1) ≤ x7 then ((.inr (x1, V0))) else ((if (2 * a1) ≤ x5 then (pf_call (F_X4_factorOf cl cr x3 V0) fun y25 _ => pf_let (fp_m x1 (fp_l y25)) fun y28 => pf_let (x3 + 1) fun x31 => pf_let (x7 + 1) fun x33 => (.inl (y28, x31, x5, x33))) else ((if (2 * a1) ≤ x3 then (pf_call (F_X4_factorOf cr cl x5 V0) fun y40 _ => pf_let (fp_d x1 (fp_l y40)) fun y43 => pf_let (x5 + 1) fun x46 => pf_let (x7 + 1) fun x48 => (.inl (y43, x3, x46, x48))) else (pf_let (fp_c .g x1 4607182418800017408) fun y50 => (if 0 < y50 then (pf_call (F_X4_factorOf cr cl x5 V0) fun y58 _ => pf_let (fp_d x1 (fp_l y58)) fun y61 => pf_let (x5 + 1) fun x64 => pf_let (x7 + 1) fun x66 => (.inl (y61, x3, x64, x66))) else (pf_call (F_X4_factorOf cl cr x3 V0) fun y72 _ => pf_let (fp_m x1 (fp_l y72)) fun y75 => pf_let (x3 + 1) fun x78 => pf_let (x7 + 1) fun x80 => (.inl (y75, x78, x5, x80)))))))))))) (4607182418800017408, 0, 0, 0)
theorem F_X4_roughQuotient_eq (cl : Nat) (cr : Nat) (a1 : Int) (V0 : pm_M) : F_X4_roughQuotient cl cr a1 V0 = pf_val ((0 : Int), V0) (fun (q : Int × Int × Int × Int) => match q with | (x1, x3, x5, x7) => ((if (4 * a1) ≤ x7 then ((.inr (x1, V0))) else ((if (2 * a1) ≤ x5 then (pf_call (F_X4_factorOf cl cr x3 V0) fun y25 _ => pf_let (fp_m x1 (fp_l y25)) fun y28 => pf_let (x3 + 1) fun x31 => pf_let (x7 + 1) fun x33 => (.inl (y28, x31, x5, x33))) else ((if (2 * a1) ≤ x3 then (pf_call (F_X4_factorOf cr cl x5 V0) fun y40 _ => pf_let (fp_d x1 (fp_l y40)) fun y43 => pf_let (x5 + 1) fun x46 => pf_let (x7 + 1) fun x48 => (.inl (y43, x3, x46, x48))) else (pf_let (fp_c .g x1 4607182418800017408) fun y50 => (if 0 < y50 then (pf_call (F_X4_factorOf cr cl x5 V0) fun y58 _ => pf_let (fp_d x1 (fp_l y58)) fun y61 => pf_let (x5 + 1) fun x64 => pf_let (x7 + 1) fun x66 => (.inl (y61, x3, x64, x66))) else (pf_call (F_X4_factorOf cl cr x3 V0) fun y72 _ => pf_let (fp_m x1 (fp_l y72)) fun y75 => pf_let (x3 + 1) fun x78 => pf_let (x7 + 1) fun x80 => (.inl (y75, x78, x5, x80)))))))))))) (4607182418800017408, 0, 0, 0) := rfl
noncomputable def F_X1_begin (pr : Nat) (V0 : pm_M) : Int × pm_M := (0, (pm_up (pm_up V0 (pr + 1) (0 : Int).toNat 1) pr 1 1))
theorem F_X1_begin_eq (pr : Nat) (V0 : pm_M) : F_X1_begin pr V0 = (0, (pm_up (pm_up V0 (pr + 1) (0 : Int).toNat 1) pr 1 1)) := rfl
noncomputable def F_X1_compareWith (pr : Nat) (po : Nat) (V0 : pm_M) : Int × pm_M := pf_let (V0 pr 1) fun y1 => pf_let (V0 po 1) fun y4 => (if y1 = y4 then (pf_val ((0 : Int), V0) (fun (q : Int) => match q with | x8 => ((if x8 < 0 then ((.inr (0, V0))) else (pf_let (V0 (pr + 1) (x8 : Int).toNat) fun y19 => pf_let (V0 (po + 1) (x8 : Int).toNat) fun y23 => pf_let (pm_cmp y19 y23) fun y26 => (if y26 = 0 then (pf_let (x8 + (-1)) fun x29 => (.inl x29)) else (pf_let (pm_cmp y19 y23) fun y31 => (if y31 ≤ 0 then ((.inr ((-1), V0))) else ((.inr (1, V0)))))))))) (y1 - 1)) else ((if y1 ≤ y4 then (((-1), V0)) else ((1, V0)))))
theorem F_X1_compareWith_eq (pr : Nat) (po : Nat) (V0 : pm_M) : F_X1_compareWith pr po V0 = pf_let (V0 pr 1) fun y1 => pf_let (V0 po 1) fun y4 => (if y1 = y4 then (pf_val ((0 : Int), V0) (fun (q : Int) => match q with | x8 => ((if x8 < 0 then ((.inr (0, V0))) else (pf_let (V0 (pr + 1) (x8 : Int).toNat) fun y19 => pf_let (V0 (po + 1) (x8 : Int).toNat) fun y23 => pf_let (pm_cmp y19 y23) fun y26 => (if y26 = 0 then (pf_let (x8 + (-1)) fun x29 => (.inl x29)) else (pf_let (pm_cmp y19 y23) fun y31 => (if y31 ≤ 0 then ((.inr ((-1), V0))) else ((.inr (1, V0)))))))))) (y1 - 1)) else ((if y1 ≤ y4 then (((-1), V0)) else ((1, V0))))) := rfl
noncomputable def F_X1_times (pr : Nat) (a1 : Int) (V0 : pm_M) : Int × pm_M := pf_val ((0 : Int), V0) (fun (q : Int × Int × pm_M) => match q with | (x1, x3, V5) => (pf_let (V5 pr 1) fun y15 => (if y15 ≤ x3 then (pf_let (pm_cmp x1 0) fun y19 => (if y19 ≤ 0 then ((.inr (0, V5))) else ((if 128 ≤ y15 then ((.inr (0, V5))) else ((.inr (0, (pm_up (pm_up V5 (pr + 1) (y15 : Int).toNat x1) pr 1 (y15 + 1))))))))) else (pf_let (V5 (pr + 1) (x3 : Int).toNat) fun y25 => pf_let (pm_w64 (y25 * a1)) fun y28 => pf_let (pm_w64 (y28 + x1)) fun y31 => pf_let ((pm_landV y31 1073741823)) fun y34 => pf_let ((pm_lushrV y31 30)) fun y36 => pf_let (x3 + 1) fun x38 => (.inl (y36, x38, (pm_up V5 (pr + 1) (x3 : Int).toNat y34))))))) (0, 0, V0)
theorem F_X1_times_eq (pr : Nat) (a1 : Int) (V0 : pm_M) : F_X1_times pr a1 V0 = pf_val ((0 : Int), V0) (fun (q : Int × Int × pm_M) => match q with | (x1, x3, V5) => (pf_let (V5 pr 1) fun y15 => (if y15 ≤ x3 then (pf_let (pm_cmp x1 0) fun y19 => (if y19 ≤ 0 then ((.inr (0, V5))) else ((if 128 ≤ y15 then ((.inr (0, V5))) else ((.inr (0, (pm_up (pm_up V5 (pr + 1) (y15 : Int).toNat x1) pr 1 (y15 + 1))))))))) else (pf_let (V5 (pr + 1) (x3 : Int).toNat) fun y25 => pf_let (pm_w64 (y25 * a1)) fun y28 => pf_let (pm_w64 (y28 + x1)) fun y31 => pf_let ((pm_landV y31 1073741823)) fun y34 => pf_let ((pm_lushrV y31 30)) fun y36 => pf_let (x3 + 1) fun x38 => (.inl (y36, x38, (pm_up V5 (pr + 1) (x3 : Int).toNat y34))))))) (0, 0, V0) := rfl
noncomputable def F_X4_compareExactly (cl : Nat) (cr : Nat) (a1 : Int) (V0 : pm_M) : Int × pm_M := pf_call (F_X1_begin 79 V0) fun _ V3 => pf_call (F_X1_begin 81 V3) fun _ V12 => pf_val ((0 : Int), V0) (fun (q : Int × pm_M) => match q with | (x20, V22) => ((if a1 ≤ x20 then (pf_call (F_X1_compareWith 79 81 V22) fun y38 _ => (.inr (y38, V22))) else (pf_let (V22 (cl + 1) (x20 : Int).toNat) fun y42 => pf_let (V22 (cr + 2) (x20 : Int).toNat) fun y46 => pf_let (pm_w64 (y42 * y46)) fun y49 => pf_let (V22 (cr + 1) (x20 : Int).toNat) fun y53 => pf_let (V22 (cl + 2) (x20 : Int).toNat) fun y57 => pf_let (pm_w64 (y53 * y57)) fun y60 => pf_let (pm_cmp y49 y60) fun y63 => (if y63 = 0 then (pf_let (x20 + 1) fun x66 => (.inl (x66, V22))) else (pf_call (F_X1_times 79 y42 V22) fun _ V69 => pf_let (V69 (cr + 2) (x20 : Int).toNat) fun y81 => pf_call (F_X1_times 79 y81 V69) fun _ V85 => pf_let (V85 (cr + 1) (x20 : Int).toNat) fun y97 => pf_call (F_X1_times 81 y97 V85) fun _ V101 => pf_let (V101 (cl + 2) (x20 : Int).toNat) fun y113 => pf_call (F_X1_times 81 y113 V101) fun _ V117 => pf_let (x20 + 1) fun x129 => (.inl (x129, V117)))))))) (0, V12)
theorem F_X4_compareExactly_eq (cl : Nat) (cr : Nat) (a1 : Int) (V0 : pm_M) : F_X4_compareExactly cl cr a1 V0 = pf_call (F_X1_begin 79 V0) fun _ V3 => pf_call (F_X1_begin 81 V3) fun _ V12 => pf_val ((0 : Int), V0) (fun (q : Int × pm_M) => match q with | (x20, V22) => ((if a1 ≤ x20 then (pf_call (F_X1_compareWith 79 81 V22) fun y38 _ => (.inr (y38, V22))) else (pf_let (V22 (cl + 1) (x20 : Int).toNat) fun y42 => pf_let (V22 (cr + 2) (x20 : Int).toNat) fun y46 => pf_let (pm_w64 (y42 * y46)) fun y49 => pf_let (V22 (cr + 1) (x20 : Int).toNat) fun y53 => pf_let (V22 (cl + 2) (x20 : Int).toNat) fun y57 => pf_let (pm_w64 (y53 * y57)) fun y60 => pf_let (pm_cmp y49 y60) fun y63 => (if y63 = 0 then (pf_let (x20 + 1) fun x66 => (.inl (x66, V22))) else (pf_call (F_X1_times 79 y42 V22) fun _ V69 => pf_let (V69 (cr + 2) (x20 : Int).toNat) fun y81 => pf_call (F_X1_times 79 y81 V69) fun _ V85 => pf_let (V85 (cr + 1) (x20 : Int).toNat) fun y97 => pf_call (F_X1_times 81 y97 V85) fun _ V101 => pf_let (V101 (cl + 2) (x20 : Int).toNat) fun y113 => pf_call (F_X1_times 81 y113 V101) fun _ V117 => pf_let (x20 + 1) fun x129 => (.inl (x129, V117)))))))) (0, V12) := rfl
noncomputable def F_X4_compareProducts (cl : Nat) (cr : Nat) (V0 : pm_M) : Int × pm_M := pf_call (F_X0_isNever cl V0) fun y4 _ => pf_call (F_X0_isNever cr V0) fun y10 _ => (if ¬ (y4 = 0) then ((if y10 = 0 then ((if y4 = 0 then (((0 : Int), V0)) else (((-1), V0)))) else ((if y4 = 0 then (((0 : Int), V0)) else ((0, V0)))))) else ((if y10 = 0 then (pf_let (V0 cl 0) fun y18 => pf_let (V0 cr 0) fun y21 => pf_let (pm_mn y18 y21) fun y24 => pf_call (F_X4_roughQuotient cl cr y24 V0) fun y30 _ => pf_let (fp_c .l y30 4607182418804521008) fun y33 => (if y33 ≤ 0 then (pf_let (fp_c .g y30 4607182418791010209) fun y37 => (if 0 ≤ y37 then (pf_call (F_X4_compareExactly cl cr y24 V0) fun y44 V42 => (y44, V42)) else (((-1), V0)))) else ((1, V0)))) else ((if y10 = 0 then (((0 : Int), V0)) else ((if y4 = 0 then ((1, V0)) else (((0 : Int), V0)))))))))
theorem F_X4_compareProducts_eq (cl : Nat) (cr : Nat) (V0 : pm_M) : F_X4_compareProducts cl cr V0 = pf_call (F_X0_isNever cl V0) fun y4 _ => pf_call (F_X0_isNever cr V0) fun y10 _ => (if ¬ (y4 = 0) then ((if y10 = 0 then ((if y4 = 0 then (((0 : Int), V0)) else (((-1), V0)))) else ((if y4 = 0 then (((0 : Int), V0)) else ((0, V0)))))) else ((if y10 = 0 then (pf_let (V0 cl 0) fun y18 => pf_let (V0 cr 0) fun y21 => pf_let (pm_mn y18 y21) fun y24 => pf_call (F_X4_roughQuotient cl cr y24 V0) fun y30 _ => pf_let (fp_c .l y30 4607182418804521008) fun y33 => (if y33 ≤ 0 then (pf_let (fp_c .g y30 4607182418791010209) fun y37 => (if 0 ≤ y37 then (pf_call (F_X4_compareExactly cl cr y24 V0) fun y44 V42 => (y44, V42)) else (((-1), V0)))) else ((1, V0)))) else ((if y10 = 0 then (((0 : Int), V0)) else ((if y4 = 0 then ((1, V0)) else (((0 : Int), V0))))))))) := rfl
noncomputable def F_X4_factorOfS (cl : Nat) (a1 : Int) (V0 : pm_M) : Int × pm_M := (if ¬ ((a1 % 2) = 0) then (pf_let (V0 (cl + 2) ((a1 / 2) : Int).toNat) fun y3 => pf_let (pm_mx 1 y3) fun y6 => (y6, V0)) else (pf_let (V0 (cl + 1) ((a1 / 2) : Int).toNat) fun y10 => pf_let (pm_mx 1 y10) fun y13 => (y13, V0)))
theorem F_X4_factorOfS_eq (cl : Nat) (a1 : Int) (V0 : pm_M) : F_X4_factorOfS cl a1 V0 = (if ¬ ((a1 % 2) = 0) then (pf_let (V0 (cl + 2) ((a1 / 2) : Int).toNat) fun y3 => pf_let (pm_mx 1 y3) fun y6 => (y6, V0)) else (pf_let (V0 (cl + 1) ((a1 / 2) : Int).toNat) fun y10 => pf_let (pm_mx 1 y10) fun y13 => (y13, V0))) := rfl
noncomputable def F_X4_roughQuotientS (cl : Nat) (a1 : Int) (V0 : pm_M) : Int × pm_M := pf_val ((0 : Int), V0) (fun (q : Int × Int × Int × Int) => match q with | (x1, x3, x5, x7) => ((if (4 * a1) ≤ x7 then ((.inr (x1, V0))) else ((if (2 * a1) ≤ x5 then (pf_call (F_X4_factorOfS cl x3 V0) fun y25 _ => pf_let (fp_m x1 (fp_l y25)) fun y28 => pf_let (x3 + 1) fun x31 => pf_let (x7 + 1) fun x33 => (.inl (y28, x31, x5, x33))) else ((if (2 * a1) ≤ x3 then (pf_call (F_X4_factorOfS cl x5 V0) fun y40 _ => pf_let (fp_d x1 (fp_l y40)) fun y43 => pf_let (x5 + 1) fun x46 => pf_let (x7 + 1) fun x48 => (.inl (y43, x3, x46, x48))) else (pf_let (fp_c .g x1 4607182418800017408) fun y50 => (if 0 < y50 then (pf_call (F_X4_factorOfS cl x5 V0) fun y58 _ => pf_let (fp_d x1 (fp_l y58)) fun y61 => pf_let (x5 + 1) fun x64 => pf_let (x7 + 1) fun x66 => (.inl (y61, x3, x64, x66))) else (pf_call (F_X4_factorOfS cl x3 V0) fun y72 _ => pf_let (fp_m x1 (fp_l y72)) fun y75 => pf_let (x3 + 1) fun x78 => pf_let (x7 + 1) fun x80 => (.inl (y75, x78, x5, x80)))))))))))) (4607182418800017408, 0, 0, 0)
theorem F_X4_roughQuotientS_eq (cl : Nat) (a1 : Int) (V0 : pm_M) : F_X4_roughQuotientS cl a1 V0 = pf_val ((0 : Int), V0) (fun (q : Int × Int × Int × Int) => match q with | (x1, x3, x5, x7) => ((if (4 * a1) ≤ x7 then ((.inr (x1, V0))) else ((if (2 * a1) ≤ x5 then (pf_call (F_X4_factorOfS cl x3 V0) fun y25 _ => pf_let (fp_m x1 (fp_l y25)) fun y28 => pf_let (x3 + 1) fun x31 => pf_let (x7 + 1) fun x33 => (.inl (y28, x31, x5, x33))) else ((if (2 * a1) ≤ x3 then (pf_call (F_X4_factorOfS cl x5 V0) fun y40 _ => pf_let (fp_d x1 (fp_l y40)) fun y43 => pf_let (x5 + 1) fun x46 => pf_let (x7 + 1) fun x48 => (.inl (y43, x3, x46, x48))) else (pf_let (fp_c .g x1 4607182418800017408) fun y50 => (if 0 < y50 then (pf_call (F_X4_factorOfS cl x5 V0) fun y58 _ => pf_let (fp_d x1 (fp_l y58)) fun y61 => pf_let (x5 + 1) fun x64 => pf_let (x7 + 1) fun x66 => (.inl (y61, x3, x64, x66))) else (pf_call (F_X4_factorOfS cl x3 V0) fun y72 _ => pf_let (fp_m x1 (fp_l y72)) fun y75 => pf_let (x3 + 1) fun x78 => pf_let (x7 + 1) fun x80 => (.inl (y75, x78, x5, x80)))))))))))) (4607182418800017408, 0, 0, 0) := rfl
noncomputable def F_X4_compareExactlyS (cl : Nat) (a1 : Int) (V0 : pm_M) : Int × pm_M := pf_call (F_X1_begin 79 V0) fun _ V3 => pf_call (F_X1_begin 81 V3) fun _ V12 => pf_val ((0 : Int), V0) (fun (q : Int × pm_M) => match q with | (x20, V22) => ((if a1 ≤ x20 then (pf_call (F_X1_compareWith 79 81 V22) fun y38 _ => (.inr (y38, V22))) else (pf_let (V22 (cl + 1) (x20 : Int).toNat) fun y42 => pf_let (V22 (cl + 2) (x20 : Int).toNat) fun y46 => pf_let (pm_w64 (y42 * y46)) fun y49 => pf_let (pm_w64 (y42 * y46)) fun y52 => pf_let (pm_cmp y49 y52) fun y55 => (if y55 = 0 then (pf_let (x20 + 1) fun x58 => (.inl (x58, V22))) else (pf_call (F_X1_times 79 y42 V22) fun _ V61 => pf_let (V61 (cl + 2) (x20 : Int).toNat) fun y71 => pf_call (F_X1_times 79 y71 V61) fun _ V75 => pf_let (V75 (cl + 1) (x20 : Int).toNat) fun y85 => pf_call (F_X1_times 81 y85 V75) fun _ V89 => pf_let (V89 (cl + 2) (x20 : Int).toNat) fun y99 => pf_call (F_X1_times 81 y99 V89) fun _ V103 => pf_let (x20 + 1) fun x113 => (.inl (x113, V103)))))))) (0, V12)
theorem F_X4_compareExactlyS_eq (cl : Nat) (a1 : Int) (V0 : pm_M) : F_X4_compareExactlyS cl a1 V0 = pf_call (F_X1_begin 79 V0) fun _ V3 => pf_call (F_X1_begin 81 V3) fun _ V12 => pf_val ((0 : Int), V0) (fun (q : Int × pm_M) => match q with | (x20, V22) => ((if a1 ≤ x20 then (pf_call (F_X1_compareWith 79 81 V22) fun y38 _ => (.inr (y38, V22))) else (pf_let (V22 (cl + 1) (x20 : Int).toNat) fun y42 => pf_let (V22 (cl + 2) (x20 : Int).toNat) fun y46 => pf_let (pm_w64 (y42 * y46)) fun y49 => pf_let (pm_w64 (y42 * y46)) fun y52 => pf_let (pm_cmp y49 y52) fun y55 => (if y55 = 0 then (pf_let (x20 + 1) fun x58 => (.inl (x58, V22))) else (pf_call (F_X1_times 79 y42 V22) fun _ V61 => pf_let (V61 (cl + 2) (x20 : Int).toNat) fun y71 => pf_call (F_X1_times 79 y71 V61) fun _ V75 => pf_let (V75 (cl + 1) (x20 : Int).toNat) fun y85 => pf_call (F_X1_times 81 y85 V75) fun _ V89 => pf_let (V89 (cl + 2) (x20 : Int).toNat) fun y99 => pf_call (F_X1_times 81 y99 V89) fun _ V103 => pf_let (x20 + 1) fun x113 => (.inl (x113, V103)))))))) (0, V12) := rfl
noncomputable def F_X4_compareProductsS (cl : Nat) (V0 : pm_M) : Int × pm_M := pf_call (F_X0_isNever cl V0) fun y4 _ => pf_call (F_X0_isNever cl V0) fun y10 _ => (if ¬ (y4 = 0) then ((if y10 = 0 then ((if y4 = 0 then (((0 : Int), V0)) else (((-1), V0)))) else ((if y4 = 0 then (((0 : Int), V0)) else ((0, V0)))))) else ((if y10 = 0 then (pf_let (V0 cl 0) fun y18 => pf_let (pm_mn y18 y18) fun y21 => pf_call (F_X4_roughQuotientS cl y21 V0) fun y27 _ => pf_let (fp_c .l y27 4607182418804521008) fun y30 => (if y30 ≤ 0 then (pf_let (fp_c .g y27 4607182418791010209) fun y34 => (if 0 ≤ y34 then (pf_call (F_X4_compareExactlyS cl y21 V0) fun y41 V39 => (y41, V39)) else (((-1), V0)))) else ((1, V0)))) else ((if y10 = 0 then (((0 : Int), V0)) else ((if y4 = 0 then ((1, V0)) else (((0 : Int), V0)))))))))
theorem F_X4_compareProductsS_eq (cl : Nat) (V0 : pm_M) : F_X4_compareProductsS cl V0 = pf_call (F_X0_isNever cl V0) fun y4 _ => pf_call (F_X0_isNever cl V0) fun y10 _ => (if ¬ (y4 = 0) then ((if y10 = 0 then ((if y4 = 0 then (((0 : Int), V0)) else (((-1), V0)))) else ((if y4 = 0 then (((0 : Int), V0)) else ((0, V0)))))) else ((if y10 = 0 then (pf_let (V0 cl 0) fun y18 => pf_let (pm_mn y18 y18) fun y21 => pf_call (F_X4_roughQuotientS cl y21 V0) fun y27 _ => pf_let (fp_c .l y27 4607182418804521008) fun y30 => (if y30 ≤ 0 then (pf_let (fp_c .g y27 4607182418791010209) fun y34 => (if 0 ≤ y34 then (pf_call (F_X4_compareExactlyS cl y21 V0) fun y41 V39 => (y41, V39)) else (((-1), V0)))) else ((1, V0)))) else ((if y10 = 0 then (((0 : Int), V0)) else ((if y4 = 0 then ((1, V0)) else (((0 : Int), V0))))))))) := rfl
set_option maxHeartbeats 4000000 in
set_option maxRecDepth 100000 in
theorem fD_X0_isNever_84  : pm_K 1 yX0_isNever cX0_isNever 2 (some .boolean) (fun av V => av = [(3, 84)] ∧ pm_ok 0 90 V) (fun _ V r V' => ∃ y, r = some (0, y) ∧ (0 ≤ y ∧ y ≤ 1) ∧ V = V' ∧ F_X0_isNever 84 V = (y, V)) := by
  refine pm_MT.of (by decide) ⟨Nat.le_refl _, by decide⟩ (fun av V h => by rw [h.1]; exact (by decide : pm_words [(3, 0)] ≤ 2)) ?_
  rintro X av V0 hC - hR ⟨rfl, hV0⟩
  change pm_J X 0 [(0, (3, 84))] [] 118 V0
  have hT := F_X0_isNever_eq 84 V0
  refine pm_iconst (v := 0) hC dX0_isNever_0 ?_
  refine pm_istore_n (lv' := [(1, (0, 0)), (0, (3, 84))]) hC dX0_isNever_1 (by decide) rfl ?_
  obtain ⟨B3, hB4, hT⟩ := pf_loop hT
  have L6 : ∀ (N8 : Nat) (x1 : Int), (0 ≤ x1 ∧ x1 ≤ 60) → F_X0_isNever 84 V0 = pf_val ((0 : Int), V0) B3 x1 → (Int.toNat (60 - x1)) = N8 → pm_J X 2 [(0, (3, 84)), (1, (0, x1))] [] 118 V0 := by
    intro N8
    induction N8 using Nat.strongRecOn with
    | _ N8 ih9 =>
    intro x1 b2 hT hm7
    have hb5 := congrFun hB4 x1
    refine pm_iload_n hC 1 dX0_isNever_2 rfl ?_
    refine pm_aload_n hC 0 (by decide) dX0_isNever_3 rfl ?_
    obtain ⟨y10, e11⟩ : ∃ y, V0 84 0 = y := ⟨_, rfl⟩
    have b12 := hV0.get 84 0 (lo := 0) (hi := 60) (by decide) (by decide) rfl
    rw [e11] at b12
    replace hb5 := hb5.trans (pf_let_eq e11)
    refine pm_getf (v := y10) hC 84 fl_X0_9 rfl rfl (by decide) rfl e11 dX0_isNever_4 ?_
    refine pm_icmp_ge (tgt := 29) hC ⟨by omega, by omega⟩ ⟨by omega, by omega⟩ dX0_isNever_7 (by decide) (fun c13 => ?_) (fun c13 => ?_)
    · skip
      replace hb5 := hb5.trans (if_pos c13)
      refine pm_iconst (v := 0) hC dX0_isNever_29 ?_
      have hT := hT.trans (pf_val_inr hb5)
      exact pm_iret hC hR (pm_narZ (by omega)) ⟨0, rfl, ⟨by omega, by omega⟩, rfl, hT⟩ dX0_isNever_30
    · skip
      replace hb5 := hb5.trans (if_neg (Int.not_le.mpr c13))
      refine pm_aload_n hC 0 (by decide) dX0_isNever_10 rfl ?_
      have e14 : V0 84 1 = 85 := hV0.one 84 1 (by decide) (by decide) rfl
      refine pm_getf (v := 85) hC 84 fl_X0_15 rfl rfl (by decide) rfl e14 dX0_isNever_11 ?_
      refine pm_iload_n hC 1 dX0_isNever_14 rfl ?_
      obtain ⟨y15, e16⟩ : ∃ y, V0 85 (x1 : Int).toNat = y := ⟨_, rfl⟩
      replace hb5 := hb5.trans (pf_let_eq e16)
      have b17 := hV0.get 85 (x1 : Int).toNat (lo := (-9223372036854775808)) (hi := 9223372036854775807) (by decide) (show _ < 60 by omega) rfl
      rw [e16] at b17
      refine pm_laload (len := 60) (v := y15) hC 85 rfl rfl (by decide) ⟨by omega, by omega⟩ (by decide) e16 dX0_isNever_15 ?_
      refine pm_lconst (x := 0) hC dX0_isNever_16 rfl ?_
      refine pm_lcmp hC ⟨by omega, by omega⟩ ⟨by decide, by decide⟩ dX0_isNever_17 (fun y18 b19 => ?_)
      replace hb5 := hb5.trans (pf_let_eq (pm_cmp_u b19))
      refine pm_if_gt (tgt := 23) hC ⟨by omega, by omega⟩ dX0_isNever_18 (by decide) (fun c20 => ?_) (fun c20 => ?_)
      · skip
        replace hb5 := hb5.trans (if_pos c20)
        obtain ⟨x21, ei22⟩ : ∃ y : Int, x1 + 1 = y := ⟨_, rfl⟩
        replace hb5 := hb5.trans (pf_let_eq ei22)
        refine pm_iinc (y := x21) (lv' := [(1, (0, x21)), (0, (3, 84))]) hC 1 dX0_isNever_23 (by decide) rfl ei22 rfl ?_
        refine pm_goto (tgt := 2) hC dX0_isNever_26 (by decide) ?_
        refine pm_lvsub [1, 0] (lv' := [(0, (3, 84)), (1, (0, x21))]) rfl ?_
        exact ih9 _ (by omega) x21 ⟨by omega, by omega⟩ (hT.trans (pf_val_inl hb5)) rfl
      · skip
        replace hb5 := hb5.trans (if_neg (Int.not_lt.mpr c20))
        refine pm_iconst (v := 1) hC dX0_isNever_21 ?_
        have hT := hT.trans (pf_val_inr hb5)
        exact pm_iret hC hR (pm_narZ (by omega)) ⟨1, rfl, ⟨by omega, by omega⟩, rfl, hT⟩ dX0_isNever_22
  refine pm_lvsub [1, 0] (lv' := [(0, (3, 84)), (1, (0, 0))]) rfl ?_
  exact L6 _ 0 ⟨by decide, by decide⟩ hT rfl
set_option maxHeartbeats 4000000 in
set_option maxRecDepth 100000 in
theorem fD_X0_isNever_87  : pm_K 1 yX0_isNever cX0_isNever 2 (some .boolean) (fun av V => av = [(3, 87)] ∧ pm_ok 0 90 V) (fun _ V r V' => ∃ y, r = some (0, y) ∧ (0 ≤ y ∧ y ≤ 1) ∧ V = V' ∧ F_X0_isNever 87 V = (y, V)) := by
  refine pm_MT.of (by decide) ⟨Nat.le_refl _, by decide⟩ (fun av V h => by rw [h.1]; exact (by decide : pm_words [(3, 0)] ≤ 2)) ?_
  rintro X av V0 hC - hR ⟨rfl, hV0⟩
  change pm_J X 0 [(0, (3, 87))] [] 118 V0
  have hT := F_X0_isNever_eq 87 V0
  refine pm_iconst (v := 0) hC dX0_isNever_0 ?_
  refine pm_istore_n (lv' := [(1, (0, 0)), (0, (3, 87))]) hC dX0_isNever_1 (by decide) rfl ?_
  obtain ⟨B3, hB4, hT⟩ := pf_loop hT
  have L6 : ∀ (N8 : Nat) (x1 : Int), (0 ≤ x1 ∧ x1 ≤ 60) → F_X0_isNever 87 V0 = pf_val ((0 : Int), V0) B3 x1 → (Int.toNat (60 - x1)) = N8 → pm_J X 2 [(0, (3, 87)), (1, (0, x1))] [] 118 V0 := by
    intro N8
    induction N8 using Nat.strongRecOn with
    | _ N8 ih9 =>
    intro x1 b2 hT hm7
    have hb5 := congrFun hB4 x1
    refine pm_iload_n hC 1 dX0_isNever_2 rfl ?_
    refine pm_aload_n hC 0 (by decide) dX0_isNever_3 rfl ?_
    obtain ⟨y10, e11⟩ : ∃ y, V0 87 0 = y := ⟨_, rfl⟩
    have b12 := hV0.get 87 0 (lo := 0) (hi := 60) (by decide) (by decide) rfl
    rw [e11] at b12
    replace hb5 := hb5.trans (pf_let_eq e11)
    refine pm_getf (v := y10) hC 87 fl_X0_9 rfl rfl (by decide) rfl e11 dX0_isNever_4 ?_
    refine pm_icmp_ge (tgt := 29) hC ⟨by omega, by omega⟩ ⟨by omega, by omega⟩ dX0_isNever_7 (by decide) (fun c13 => ?_) (fun c13 => ?_)
    · skip
      replace hb5 := hb5.trans (if_pos c13)
      refine pm_iconst (v := 0) hC dX0_isNever_29 ?_
      have hT := hT.trans (pf_val_inr hb5)
      exact pm_iret hC hR (pm_narZ (by omega)) ⟨0, rfl, ⟨by omega, by omega⟩, rfl, hT⟩ dX0_isNever_30
    · skip
      replace hb5 := hb5.trans (if_neg (Int.not_le.mpr c13))
      refine pm_aload_n hC 0 (by decide) dX0_isNever_10 rfl ?_
      have e14 : V0 87 1 = 88 := hV0.one 87 1 (by decide) (by decide) rfl
      refine pm_getf (v := 88) hC 87 fl_X0_15 rfl rfl (by decide) rfl e14 dX0_isNever_11 ?_
      refine pm_iload_n hC 1 dX0_isNever_14 rfl ?_
      obtain ⟨y15, e16⟩ : ∃ y, V0 88 (x1 : Int).toNat = y := ⟨_, rfl⟩
      replace hb5 := hb5.trans (pf_let_eq e16)
      have b17 := hV0.get 88 (x1 : Int).toNat (lo := (-9223372036854775808)) (hi := 9223372036854775807) (by decide) (show _ < 60 by omega) rfl
      rw [e16] at b17
      refine pm_laload (len := 60) (v := y15) hC 88 rfl rfl (by decide) ⟨by omega, by omega⟩ (by decide) e16 dX0_isNever_15 ?_
      refine pm_lconst (x := 0) hC dX0_isNever_16 rfl ?_
      refine pm_lcmp hC ⟨by omega, by omega⟩ ⟨by decide, by decide⟩ dX0_isNever_17 (fun y18 b19 => ?_)
      replace hb5 := hb5.trans (pf_let_eq (pm_cmp_u b19))
      refine pm_if_gt (tgt := 23) hC ⟨by omega, by omega⟩ dX0_isNever_18 (by decide) (fun c20 => ?_) (fun c20 => ?_)
      · skip
        replace hb5 := hb5.trans (if_pos c20)
        obtain ⟨x21, ei22⟩ : ∃ y : Int, x1 + 1 = y := ⟨_, rfl⟩
        replace hb5 := hb5.trans (pf_let_eq ei22)
        refine pm_iinc (y := x21) (lv' := [(1, (0, x21)), (0, (3, 87))]) hC 1 dX0_isNever_23 (by decide) rfl ei22 rfl ?_
        refine pm_goto (tgt := 2) hC dX0_isNever_26 (by decide) ?_
        refine pm_lvsub [1, 0] (lv' := [(0, (3, 87)), (1, (0, x21))]) rfl ?_
        exact ih9 _ (by omega) x21 ⟨by omega, by omega⟩ (hT.trans (pf_val_inl hb5)) rfl
      · skip
        replace hb5 := hb5.trans (if_neg (Int.not_lt.mpr c20))
        refine pm_iconst (v := 1) hC dX0_isNever_21 ?_
        have hT := hT.trans (pf_val_inr hb5)
        exact pm_iret hC hR (pm_narZ (by omega)) ⟨1, rfl, ⟨by omega, by omega⟩, rfl, hT⟩ dX0_isNever_22
  refine pm_lvsub [1, 0] (lv' := [(0, (3, 87)), (1, (0, 0))]) rfl ?_
  exact L6 _ 0 ⟨by decide, by decide⟩ hT rfl
set_option maxHeartbeats 4000000 in
set_option maxRecDepth 100000 in
theorem fD_X4_factorOf_84_87 (a1 : Int) (h0 : 0 ≤ a1 ∧ a1 ≤ 119) : pm_K 1 yX4_factorOf cX4_factorOf 6 (some .long) (fun av V => av = [(3, 84), (3, 87), (0, a1)] ∧ pm_ok 0 90 V) (fun _ V r V' => ∃ y, r = some (1, y) ∧ (1 ≤ y ∧ y ≤ 9223372036854775807) ∧ V = V' ∧ F_X4_factorOf 84 87 a1 V = (y, V)) := by
  refine pm_MT.of (by decide) ⟨Nat.le_refl _, by decide⟩ (fun av V h => by rw [h.1]; exact (by decide : pm_words [(3, 0), (3, 0), (0, 0)] ≤ 6)) ?_
  rintro X av V0 hC - hR ⟨rfl, hV0⟩
  change pm_J X 0 [(0, (3, 84)), (1, (3, 87)), (2, (0, a1))] [] 118 V0
  have hT := F_X4_factorOf_eq 84 87 a1 V0
  refine pm_iload_n hC 2 dX4_factorOf_0 rfl ?_
  refine pm_iconst (v := 2) hC dX4_factorOf_1 ?_
  refine pm_idiv hC ⟨by omega, by omega, by omega⟩ ⟨by decide, by decide, by decide⟩ dX4_factorOf_2 ?_
  refine pm_istore_n (lv' := [(3, (0, (a1 / 2))), (0, (3, 84)), (1, (3, 87)), (2, (0, a1))]) hC dX4_factorOf_3 (by decide) rfl ?_
  refine pm_iload_n hC 3 dX4_factorOf_4 rfl ?_
  refine pm_iconst (v := 2) hC dX4_factorOf_5 ?_
  refine pm_irem hC ⟨by omega, by omega, by omega⟩ ⟨by decide, by decide, by decide⟩ dX4_factorOf_6 ?_
  refine pm_if_ne (tgt := 19) hC ⟨by omega, by omega⟩ dX4_factorOf_7 (by decide) (fun c1 => ?_) (fun c1 => ?_)
  · skip
    replace hT := hT.trans (if_pos c1)
    refine pm_aload_n hC 2 (by decide) dX4_factorOf_19 rfl ?_
    have e2 : V0 87 2 = 89 := hV0.one 87 2 (by decide) (by decide) rfl
    refine pm_getf (v := 89) hC 87 fl_X4_55 rfl rfl (by decide) rfl e2 dX4_factorOf_20 ?_
    refine pm_iload_n hC 0 dX4_factorOf_23 rfl ?_
    obtain ⟨y3, e4⟩ : ∃ y, V0 89 ((a1 / 2) : Int).toNat = y := ⟨_, rfl⟩
    replace hT := hT.trans (pf_let_eq e4)
    have b5 := hV0.get 89 ((a1 / 2) : Int).toNat (lo := (-9223372036854775808)) (hi := 9223372036854775807) (by decide) (show _ < 60 by omega) rfl
    rw [e4] at b5
    refine pm_laload (len := 60) (v := y3) hC 89 rfl rfl (by decide) ⟨by omega, by omega⟩ (by decide) e4 dX4_factorOf_24 ?_
    refine pm_lstore (lv' := [(4, (1, y3)), (3, (0, (a1 / 2))), (0, (3, 84)), (1, (3, 87)), (2, (0, a1))]) hC dX4_factorOf_25 (by decide) rfl ?_
    refine pm_lconst (x := 1) hC dX4_factorOf_27 rfl ?_
    refine pm_lload hC 0 dX4_factorOf_28 rfl ?_
    refine pm_mmaxL hC 4168 4169 1018 4170 ⟨by decide, by decide⟩ ⟨by omega, by omega⟩ (by decide) wL_X4_58 wS_mmaxL wI_math wC_mmaxL (Nat.le_of_ble_eq_true rfl) dX4_factorOf_30 (fun y6 b7 => ?_)
    have he8 : pm_mx 1 y3 = y6 := pm_mx_of b7
    replace b7 : 1 ≤ y6 ∧ y6 ≤ 9223372036854775807 ∧ 1 ≤ y6 ∧ y3 ≤ y6 := ⟨by omega, by omega, b7.1, b7.2.1⟩
    replace hT := hT.trans (pf_let_eq he8)
    exact pm_lret hC hR ⟨y6, rfl, ⟨by omega, by omega⟩, rfl, hT⟩ dX4_factorOf_33
  · skip
    replace hT := hT.trans (if_neg (fun q => q c1))
    refine pm_aload_n hC 1 (by decide) dX4_factorOf_10 rfl ?_
    have e9 : V0 84 1 = 85 := hV0.one 84 1 (by decide) (by decide) rfl
    refine pm_getf (v := 85) hC 84 fl_X4_51 rfl rfl (by decide) rfl e9 dX4_factorOf_11 ?_
    refine pm_iload_n hC 0 dX4_factorOf_14 rfl ?_
    obtain ⟨y10, e11⟩ : ∃ y, V0 85 ((a1 / 2) : Int).toNat = y := ⟨_, rfl⟩
    replace hT := hT.trans (pf_let_eq e11)
    have b12 := hV0.get 85 ((a1 / 2) : Int).toNat (lo := (-9223372036854775808)) (hi := 9223372036854775807) (by decide) (show _ < 60 by omega) rfl
    rw [e11] at b12
    refine pm_laload (len := 60) (v := y10) hC 85 rfl rfl (by decide) ⟨by omega, by omega⟩ (by decide) e11 dX4_factorOf_15 ?_
    refine pm_goto (tgt := 25) hC dX4_factorOf_16 (by decide) ?_
    refine pm_lstore (lv' := [(4, (1, y10)), (3, (0, (a1 / 2))), (0, (3, 84)), (1, (3, 87)), (2, (0, a1))]) hC dX4_factorOf_25 (by decide) rfl ?_
    refine pm_lconst (x := 1) hC dX4_factorOf_27 rfl ?_
    refine pm_lload hC 0 dX4_factorOf_28 rfl ?_
    refine pm_mmaxL hC 4168 4169 1018 4170 ⟨by decide, by decide⟩ ⟨by omega, by omega⟩ (by decide) wL_X4_58 wS_mmaxL wI_math wC_mmaxL (Nat.le_of_ble_eq_true rfl) dX4_factorOf_30 (fun y13 b14 => ?_)
    have he15 : pm_mx 1 y10 = y13 := pm_mx_of b14
    replace b14 : 1 ≤ y13 ∧ y13 ≤ 9223372036854775807 ∧ 1 ≤ y13 ∧ y10 ≤ y13 := ⟨by omega, by omega, b14.1, b14.2.1⟩
    replace hT := hT.trans (pf_let_eq he15)
    exact pm_lret hC hR ⟨y13, rfl, ⟨by omega, by omega⟩, rfl, hT⟩ dX4_factorOf_33
set_option maxHeartbeats 4000000 in
set_option maxRecDepth 100000 in
theorem fD_X4_factorOf_87_84 (a1 : Int) (h0 : 0 ≤ a1 ∧ a1 ≤ 119) : pm_K 1 yX4_factorOf cX4_factorOf 6 (some .long) (fun av V => av = [(3, 87), (3, 84), (0, a1)] ∧ pm_ok 0 90 V) (fun _ V r V' => ∃ y, r = some (1, y) ∧ (1 ≤ y ∧ y ≤ 9223372036854775807) ∧ V = V' ∧ F_X4_factorOf 87 84 a1 V = (y, V)) := by
  refine pm_MT.of (by decide) ⟨Nat.le_refl _, by decide⟩ (fun av V h => by rw [h.1]; exact (by decide : pm_words [(3, 0), (3, 0), (0, 0)] ≤ 6)) ?_
  rintro X av V0 hC - hR ⟨rfl, hV0⟩
  change pm_J X 0 [(0, (3, 87)), (1, (3, 84)), (2, (0, a1))] [] 118 V0
  have hT := F_X4_factorOf_eq 87 84 a1 V0
  refine pm_iload_n hC 2 dX4_factorOf_0 rfl ?_
  refine pm_iconst (v := 2) hC dX4_factorOf_1 ?_
  refine pm_idiv hC ⟨by omega, by omega, by omega⟩ ⟨by decide, by decide, by decide⟩ dX4_factorOf_2 ?_
  refine pm_istore_n (lv' := [(3, (0, (a1 / 2))), (0, (3, 87)), (1, (3, 84)), (2, (0, a1))]) hC dX4_factorOf_3 (by decide) rfl ?_
  refine pm_iload_n hC 3 dX4_factorOf_4 rfl ?_
  refine pm_iconst (v := 2) hC dX4_factorOf_5 ?_
  refine pm_irem hC ⟨by omega, by omega, by omega⟩ ⟨by decide, by decide, by decide⟩ dX4_factorOf_6 ?_
  refine pm_if_ne (tgt := 19) hC ⟨by omega, by omega⟩ dX4_factorOf_7 (by decide) (fun c1 => ?_) (fun c1 => ?_)
  · skip
    replace hT := hT.trans (if_pos c1)
    refine pm_aload_n hC 2 (by decide) dX4_factorOf_19 rfl ?_
    have e2 : V0 84 2 = 86 := hV0.one 84 2 (by decide) (by decide) rfl
    refine pm_getf (v := 86) hC 84 fl_X4_55 rfl rfl (by decide) rfl e2 dX4_factorOf_20 ?_
    refine pm_iload_n hC 0 dX4_factorOf_23 rfl ?_
    obtain ⟨y3, e4⟩ : ∃ y, V0 86 ((a1 / 2) : Int).toNat = y := ⟨_, rfl⟩
    replace hT := hT.trans (pf_let_eq e4)
    have b5 := hV0.get 86 ((a1 / 2) : Int).toNat (lo := (-9223372036854775808)) (hi := 9223372036854775807) (by decide) (show _ < 60 by omega) rfl
    rw [e4] at b5
    refine pm_laload (len := 60) (v := y3) hC 86 rfl rfl (by decide) ⟨by omega, by omega⟩ (by decide) e4 dX4_factorOf_24 ?_
    refine pm_lstore (lv' := [(4, (1, y3)), (3, (0, (a1 / 2))), (0, (3, 87)), (1, (3, 84)), (2, (0, a1))]) hC dX4_factorOf_25 (by decide) rfl ?_
    refine pm_lconst (x := 1) hC dX4_factorOf_27 rfl ?_
    refine pm_lload hC 0 dX4_factorOf_28 rfl ?_
    refine pm_mmaxL hC 4168 4169 1018 4170 ⟨by decide, by decide⟩ ⟨by omega, by omega⟩ (by decide) wL_X4_58 wS_mmaxL wI_math wC_mmaxL (Nat.le_of_ble_eq_true rfl) dX4_factorOf_30 (fun y6 b7 => ?_)
    have he8 : pm_mx 1 y3 = y6 := pm_mx_of b7
    replace b7 : 1 ≤ y6 ∧ y6 ≤ 9223372036854775807 ∧ 1 ≤ y6 ∧ y3 ≤ y6 := ⟨by omega, by omega, b7.1, b7.2.1⟩
    replace hT := hT.trans (pf_let_eq he8)
    exact pm_lret hC hR ⟨y6, rfl, ⟨by omega, by omega⟩, rfl, hT⟩ dX4_factorOf_33
  · skip
    replace hT := hT.trans (if_neg (fun q => q c1))
    refine pm_aload_n hC 1 (by decide) dX4_factorOf_10 rfl ?_
    have e9 : V0 87 1 = 88 := hV0.one 87 1 (by decide) (by decide) rfl
    refine pm_getf (v := 88) hC 87 fl_X4_51 rfl rfl (by decide) rfl e9 dX4_factorOf_11 ?_
    refine pm_iload_n hC 0 dX4_factorOf_14 rfl ?_
    obtain ⟨y10, e11⟩ : ∃ y, V0 88 ((a1 / 2) : Int).toNat = y := ⟨_, rfl⟩
    replace hT := hT.trans (pf_let_eq e11)
    have b12 := hV0.get 88 ((a1 / 2) : Int).toNat (lo := (-9223372036854775808)) (hi := 9223372036854775807) (by decide) (show _ < 60 by omega) rfl
    rw [e11] at b12
    refine pm_laload (len := 60) (v := y10) hC 88 rfl rfl (by decide) ⟨by omega, by omega⟩ (by decide) e11 dX4_factorOf_15 ?_
    refine pm_goto (tgt := 25) hC dX4_factorOf_16 (by decide) ?_
    refine pm_lstore (lv' := [(4, (1, y10)), (3, (0, (a1 / 2))), (0, (3, 87)), (1, (3, 84)), (2, (0, a1))]) hC dX4_factorOf_25 (by decide) rfl ?_
    refine pm_lconst (x := 1) hC dX4_factorOf_27 rfl ?_
    refine pm_lload hC 0 dX4_factorOf_28 rfl ?_
    refine pm_mmaxL hC 4168 4169 1018 4170 ⟨by decide, by decide⟩ ⟨by omega, by omega⟩ (by decide) wL_X4_58 wS_mmaxL wI_math wC_mmaxL (Nat.le_of_ble_eq_true rfl) dX4_factorOf_30 (fun y13 b14 => ?_)
    have he15 : pm_mx 1 y10 = y13 := pm_mx_of b14
    replace b14 : 1 ≤ y13 ∧ y13 ≤ 9223372036854775807 ∧ 1 ≤ y13 ∧ y10 ≤ y13 := ⟨by omega, by omega, b14.1, b14.2.1⟩
    replace hT := hT.trans (pf_let_eq he15)
    exact pm_lret hC hR ⟨y13, rfl, ⟨by omega, by omega⟩, rfl, hT⟩ dX4_factorOf_33
set_option maxHeartbeats 4000000 in
set_option maxRecDepth 100000 in
theorem fD_X4_roughQuotient_84_87 (a1 : Int) (h0 : 0 ≤ a1 ∧ a1 ≤ 60) : pm_K 2 yX4_roughQuotient cX4_roughQuotient 9 (some .double) (fun av V => av = [(3, 84), (3, 87), (0, a1)] ∧ pm_ok 0 90 V) (fun _ V r V' => ∃ y, r = some (2, y) ∧ True ∧ V = V' ∧ F_X4_roughQuotient 84 87 a1 V = (y, V)) := by
  refine pm_MT.of (by decide) ⟨Nat.le_refl _, by decide⟩ (fun av V h => by rw [h.1]; exact (by decide : pm_words [(3, 0), (3, 0), (0, 0)] ≤ 9)) ?_
  rintro X av V0 hC - hR ⟨rfl, hV0⟩
  change pm_J X 0 [(0, (3, 84)), (1, (3, 87)), (2, (0, a1))] [] 118 V0
  have hT := F_X4_roughQuotient_eq 84 87 a1 V0
  refine pm_dconst1V hC dX4_roughQuotient_0 ?_
  refine pm_dstore_n (lv' := [(3, (2, 4607182418800017408)), (0, (3, 84)), (1, (3, 87)), (2, (0, a1))]) hC dX4_roughQuotient_1 (by decide) rfl ?_
  refine pm_iconst (v := 0) hC dX4_roughQuotient_2 ?_
  refine pm_istore (lv' := [(5, (0, 0)), (3, (2, 4607182418800017408)), (0, (3, 84)), (1, (3, 87)), (2, (0, a1))]) hC dX4_roughQuotient_3 (by decide) rfl ?_
  refine pm_iconst (v := 0) hC dX4_roughQuotient_5 ?_
  refine pm_istore (lv' := [(6, (0, 0)), (5, (0, 0)), (3, (2, 4607182418800017408)), (0, (3, 84)), (1, (3, 87)), (2, (0, a1))]) hC dX4_roughQuotient_6 (by decide) rfl ?_
  refine pm_iconst (v := 0) hC dX4_roughQuotient_8 ?_
  refine pm_istore (lv' := [(7, (0, 0)), (6, (0, 0)), (5, (0, 0)), (3, (2, 4607182418800017408)), (0, (3, 84)), (1, (3, 87)), (2, (0, a1))]) hC dX4_roughQuotient_9 (by decide) rfl ?_
  obtain ⟨B12, hB13, hT⟩ := pf_loop hT
  have L15 : ∀ (N17 : Nat) (x1 : Int) (x3 : Int) (x5 : Int) (x7 : Int), fp_gd x1 → (0 ≤ x3 ∧ x3 ≤ 120) → (0 ≤ x5 ∧ x5 ≤ 120) → (0 ≤ x7 ∧ x7 ≤ 240) → (x3 + x5 = x7) → (x3 ≤ 2 * a1) → (x5 ≤ 2 * a1) → F_X4_roughQuotient 84 87 a1 V0 = pf_val ((0 : Int), V0) B12 (x1, x3, x5, x7) → (Int.toNat (240 - x7)) = N17 → pm_J X 11 [(0, (3, 84)), (1, (3, 87)), (2, (0, a1)), (3, (2, x1)), (5, (0, x3)), (6, (0, x5)), (7, (0, x7))] [] 118 V0 := by
    intro N17
    induction N17 using Nat.strongRecOn with
    | _ N17 ih18 =>
    intro x1 x3 x5 x7 gd2 b4 b6 b8 b9 b10 b11 hT hm16
    have hb14 := congrFun hB13 (x1, x3, x5, x7)
    refine pm_iload hC 6 dX4_roughQuotient_11 rfl ?_
    refine pm_iconst (v := 4) hC dX4_roughQuotient_13 ?_
    refine pm_iload_n hC 2 dX4_roughQuotient_14 rfl ?_
    refine pm_imul hC dX4_roughQuotient_15 ?_
    refine pm_icmp_ge (tgt := 90) hC ⟨by omega, by omega⟩ ⟨by omega, by omega⟩ dX4_roughQuotient_16 (by decide) (fun c19 => ?_) (fun c19 => ?_)
    · skip
      replace hb14 := hb14.trans (if_pos c19)
      refine pm_dload_n hC 3 dX4_roughQuotient_90 rfl ?_
      have hT := hT.trans (pf_val_inr hb14)
      exact pm_dret hC hR ⟨x1, rfl, trivial, rfl, hT⟩ dX4_roughQuotient_91
    · skip
      replace hb14 := hb14.trans (if_neg (Int.not_le.mpr c19))
      refine pm_iload hC 5 dX4_roughQuotient_19 rfl ?_
      refine pm_iconst (v := 2) hC dX4_roughQuotient_21 ?_
      refine pm_iload_n hC 2 dX4_roughQuotient_22 rfl ?_
      refine pm_imul hC dX4_roughQuotient_23 ?_
      refine pm_icmp_ge (tgt := 41) hC ⟨by omega, by omega⟩ ⟨by omega, by omega⟩ dX4_roughQuotient_24 (by decide) (fun c20 => ?_) (fun c20 => ?_)
      · skip
        replace hb14 := hb14.trans (if_pos c20)
        refine pm_iconst (v := 1) hC dX4_roughQuotient_41 ?_
        refine pm_goto (tgt := 46) hC dX4_roughQuotient_42 (by decide) ?_
        refine pm_istore (lv' := [(8, (0, 1)), (0, (3, 84)), (1, (3, 87)), (2, (0, a1)), (3, (2, x1)), (5, (0, x3)), (6, (0, x5)), (7, (0, x7))]) hC dX4_roughQuotient_46 (by decide) rfl ?_
        refine pm_iload hC 0 dX4_roughQuotient_48 rfl ?_
        refine pm_if_eq (tgt := 70) hC ⟨by decide, by decide⟩ dX4_roughQuotient_50 (by decide) (fun c21 => ?_) (fun c21 => ?_)
        · skip
          exfalso; omega
        · skip
          refine pm_dload_n hC 4 dX4_roughQuotient_53 rfl ?_
          refine pm_aload_n hC 1 (by decide) dX4_roughQuotient_54 rfl ?_
          refine pm_aload_n hC 2 (by decide) dX4_roughQuotient_55 rfl ?_
          refine pm_iload hC 5 dX4_roughQuotient_56 rfl ?_
          refine pm_callS (as := [(3, 84), (3, 87), (0, x3)]) (st := [(2, x1)]) hC (fD_X4_factorOf_84_87 x3 ⟨by omega, by omega⟩) lm_X4_47 ls_X4_factorOf (by decide) (by decide) rfl rfl (Nat.le_of_ble_eq_true rfl) ⟨Nat.le_refl _, Or.inl rfl⟩ dX4_roughQuotient_58 ⟨rfl, hV0⟩ (fun r22 V23 hp24 => ?_)
          obtain ⟨y25, rfl, b26, rfl, hE27⟩ := hp24
          replace hb14 := hb14.trans (pf_call_eq hE27)
          change pm_J X 61 [(8, (0, 1)), (0, (3, 84)), (1, (3, 87)), (2, (0, a1)), (3, (2, x1)), (5, (0, x3)), (6, (0, x5)), (7, (0, x7))] [(1, y25), (2, x1)] 118 V0
          refine pm_l2dV hC dX4_roughQuotient_61 ?_
          obtain ⟨y28, e29⟩ : ∃ z, fp_m x1 (fp_l y25) = z := ⟨_, rfl⟩
          have gd30 : fp_gd y28 := by rw [← e29]; exact fp_m_gd gd2 (fp_l_gp (x := y25) ⟨by omega, by omega⟩)
          replace hb14 := hb14.trans (pf_let_eq e29)
          refine pm_dmulV hC gd2 (fp_l_gp (x := y25) ⟨by omega, by omega⟩) e29 dX4_roughQuotient_62 ?_
          refine pm_dstore_n (lv' := [(3, (2, y28)), (8, (0, 1)), (0, (3, 84)), (1, (3, 87)), (2, (0, a1)), (5, (0, x3)), (6, (0, x5)), (7, (0, x7))]) hC dX4_roughQuotient_63 (by decide) rfl ?_
          obtain ⟨x31, ei32⟩ : ∃ y : Int, x3 + 1 = y := ⟨_, rfl⟩
          replace hb14 := hb14.trans (pf_let_eq ei32)
          refine pm_iinc (y := x31) (lv' := [(5, (0, x31)), (3, (2, y28)), (8, (0, 1)), (0, (3, 84)), (1, (3, 87)), (2, (0, a1)), (6, (0, x5)), (7, (0, x7))]) hC 5 dX4_roughQuotient_64 (by decide) rfl ei32 rfl ?_
          refine pm_goto (tgt := 84) hC dX4_roughQuotient_67 (by decide) ?_
          obtain ⟨x33, ei34⟩ : ∃ y : Int, x7 + 1 = y := ⟨_, rfl⟩
          replace hb14 := hb14.trans (pf_let_eq ei34)
          refine pm_iinc (y := x33) (lv' := [(7, (0, x33)), (5, (0, x31)), (3, (2, y28)), (8, (0, 1)), (0, (3, 84)), (1, (3, 87)), (2, (0, a1)), (6, (0, x5))]) hC 7 dX4_roughQuotient_84 (by decide) rfl ei34 rfl ?_
          refine pm_goto (tgt := 11) hC dX4_roughQuotient_87 (by decide) ?_
          refine pm_lvsub [4, 5, 6, 2, 1, 7, 0] (lv' := [(0, (3, 84)), (1, (3, 87)), (2, (0, a1)), (3, (2, y28)), (5, (0, x31)), (6, (0, x5)), (7, (0, x33))]) rfl ?_
          exact ih18 _ (by omega) y28 x31 x5 x33 gd30 ⟨by omega, by omega⟩ ⟨by omega, by omega⟩ ⟨by omega, by omega⟩ (by omega) (by omega) (by omega) (hT.trans (pf_val_inl hb14)) rfl
      · skip
        replace hb14 := hb14.trans (if_neg (Int.not_le.mpr c20))
        refine pm_iload hC 4 dX4_roughQuotient_27 rfl ?_
        refine pm_iconst (v := 2) hC dX4_roughQuotient_29 ?_
        refine pm_iload_n hC 2 dX4_roughQuotient_30 rfl ?_
        refine pm_imul hC dX4_roughQuotient_31 ?_
        refine pm_icmp_ge (tgt := 45) hC ⟨by omega, by omega⟩ ⟨by omega, by omega⟩ dX4_roughQuotient_32 (by decide) (fun c35 => ?_) (fun c35 => ?_)
        · skip
          replace hb14 := hb14.trans (if_pos c35)
          refine pm_iconst (v := 0) hC dX4_roughQuotient_45 ?_
          refine pm_istore (lv' := [(8, (0, 0)), (0, (3, 84)), (1, (3, 87)), (2, (0, a1)), (3, (2, x1)), (5, (0, x3)), (6, (0, x5)), (7, (0, x7))]) hC dX4_roughQuotient_46 (by decide) rfl ?_
          refine pm_iload hC 0 dX4_roughQuotient_48 rfl ?_
          refine pm_if_eq (tgt := 70) hC ⟨by decide, by decide⟩ dX4_roughQuotient_50 (by decide) (fun c36 => ?_) (fun c36 => ?_)
          · skip
            refine pm_dload_n hC 4 dX4_roughQuotient_70 rfl ?_
            refine pm_aload_n hC 2 (by decide) dX4_roughQuotient_71 rfl ?_
            refine pm_aload_n hC 1 (by decide) dX4_roughQuotient_72 rfl ?_
            refine pm_iload hC 6 dX4_roughQuotient_73 rfl ?_
            refine pm_callS (as := [(3, 87), (3, 84), (0, x5)]) (st := [(2, x1)]) hC (fD_X4_factorOf_87_84 x5 ⟨by omega, by omega⟩) lm_X4_47 ls_X4_factorOf (by decide) (by decide) rfl rfl (Nat.le_of_ble_eq_true rfl) ⟨Nat.le_refl _, Or.inl rfl⟩ dX4_roughQuotient_75 ⟨rfl, hV0⟩ (fun r37 V38 hp39 => ?_)
            obtain ⟨y40, rfl, b41, rfl, hE42⟩ := hp39
            replace hb14 := hb14.trans (pf_call_eq hE42)
            change pm_J X 78 [(8, (0, 0)), (0, (3, 84)), (1, (3, 87)), (2, (0, a1)), (3, (2, x1)), (5, (0, x3)), (6, (0, x5)), (7, (0, x7))] [(1, y40), (2, x1)] 118 V0
            refine pm_l2dV hC dX4_roughQuotient_78 ?_
            obtain ⟨y43, e44⟩ : ∃ z, fp_d x1 (fp_l y40) = z := ⟨_, rfl⟩
            have gd45 : fp_gd y43 := by rw [← e44]; exact fp_d_gd gd2 (fp_l_gp (x := y40) ⟨by omega, by omega⟩)
            replace hb14 := hb14.trans (pf_let_eq e44)
            refine pm_ddivV hC gd2 (fp_l_gp (x := y40) ⟨by omega, by omega⟩) e44 dX4_roughQuotient_79 ?_
            refine pm_dstore_n (lv' := [(3, (2, y43)), (8, (0, 0)), (0, (3, 84)), (1, (3, 87)), (2, (0, a1)), (5, (0, x3)), (6, (0, x5)), (7, (0, x7))]) hC dX4_roughQuotient_80 (by decide) rfl ?_
            obtain ⟨x46, ei47⟩ : ∃ y : Int, x5 + 1 = y := ⟨_, rfl⟩
            replace hb14 := hb14.trans (pf_let_eq ei47)
            refine pm_iinc (y := x46) (lv' := [(6, (0, x46)), (3, (2, y43)), (8, (0, 0)), (0, (3, 84)), (1, (3, 87)), (2, (0, a1)), (5, (0, x3)), (7, (0, x7))]) hC 6 dX4_roughQuotient_81 (by decide) rfl ei47 rfl ?_
            obtain ⟨x48, ei49⟩ : ∃ y : Int, x7 + 1 = y := ⟨_, rfl⟩
            replace hb14 := hb14.trans (pf_let_eq ei49)
            refine pm_iinc (y := x48) (lv' := [(7, (0, x48)), (6, (0, x46)), (3, (2, y43)), (8, (0, 0)), (0, (3, 84)), (1, (3, 87)), (2, (0, a1)), (5, (0, x3))]) hC 7 dX4_roughQuotient_84 (by decide) rfl ei49 rfl ?_
            refine pm_goto (tgt := 11) hC dX4_roughQuotient_87 (by decide) ?_
            refine pm_lvsub [4, 5, 6, 2, 7, 1, 0] (lv' := [(0, (3, 84)), (1, (3, 87)), (2, (0, a1)), (3, (2, y43)), (5, (0, x3)), (6, (0, x46)), (7, (0, x48))]) rfl ?_
            exact ih18 _ (by omega) y43 x3 x46 x48 gd45 ⟨by omega, by omega⟩ ⟨by omega, by omega⟩ ⟨by omega, by omega⟩ (by omega) (by omega) (by omega) (hT.trans (pf_val_inl hb14)) rfl
          · skip
            exfalso; omega
        · skip
          replace hb14 := hb14.trans (if_neg (Int.not_le.mpr c35))
          refine pm_dload_n hC 3 dX4_roughQuotient_35 rfl ?_
          refine pm_dconst1V hC dX4_roughQuotient_36 ?_
          refine pm_dcmpV hC dX4_roughQuotient_37 (fun y50 e51 b52 => ?_)
          replace hb14 := hb14.trans (pf_let_eq e51)
          have b52 := And.intro b52.1 b52.2
          refine pm_if_gt (tgt := 45) hC ⟨by omega, by omega⟩ dX4_roughQuotient_38 (by decide) (fun c53 => ?_) (fun c53 => ?_)
          · skip
            replace hb14 := hb14.trans (if_pos c53)
            refine pm_iconst (v := 0) hC dX4_roughQuotient_45 ?_
            refine pm_istore (lv' := [(8, (0, 0)), (0, (3, 84)), (1, (3, 87)), (2, (0, a1)), (3, (2, x1)), (5, (0, x3)), (6, (0, x5)), (7, (0, x7))]) hC dX4_roughQuotient_46 (by decide) rfl ?_
            refine pm_iload hC 0 dX4_roughQuotient_48 rfl ?_
            refine pm_if_eq (tgt := 70) hC ⟨by decide, by decide⟩ dX4_roughQuotient_50 (by decide) (fun c54 => ?_) (fun c54 => ?_)
            · skip
              refine pm_dload_n hC 4 dX4_roughQuotient_70 rfl ?_
              refine pm_aload_n hC 2 (by decide) dX4_roughQuotient_71 rfl ?_
              refine pm_aload_n hC 1 (by decide) dX4_roughQuotient_72 rfl ?_
              refine pm_iload hC 6 dX4_roughQuotient_73 rfl ?_
              refine pm_callS (as := [(3, 87), (3, 84), (0, x5)]) (st := [(2, x1)]) hC (fD_X4_factorOf_87_84 x5 ⟨by omega, by omega⟩) lm_X4_47 ls_X4_factorOf (by decide) (by decide) rfl rfl (Nat.le_of_ble_eq_true rfl) ⟨Nat.le_refl _, Or.inl rfl⟩ dX4_roughQuotient_75 ⟨rfl, hV0⟩ (fun r55 V56 hp57 => ?_)
              obtain ⟨y58, rfl, b59, rfl, hE60⟩ := hp57
              replace hb14 := hb14.trans (pf_call_eq hE60)
              change pm_J X 78 [(8, (0, 0)), (0, (3, 84)), (1, (3, 87)), (2, (0, a1)), (3, (2, x1)), (5, (0, x3)), (6, (0, x5)), (7, (0, x7))] [(1, y58), (2, x1)] 118 V0
              refine pm_l2dV hC dX4_roughQuotient_78 ?_
              obtain ⟨y61, e62⟩ : ∃ z, fp_d x1 (fp_l y58) = z := ⟨_, rfl⟩
              have gd63 : fp_gd y61 := by rw [← e62]; exact fp_d_gd gd2 (fp_l_gp (x := y58) ⟨by omega, by omega⟩)
              replace hb14 := hb14.trans (pf_let_eq e62)
              refine pm_ddivV hC gd2 (fp_l_gp (x := y58) ⟨by omega, by omega⟩) e62 dX4_roughQuotient_79 ?_
              refine pm_dstore_n (lv' := [(3, (2, y61)), (8, (0, 0)), (0, (3, 84)), (1, (3, 87)), (2, (0, a1)), (5, (0, x3)), (6, (0, x5)), (7, (0, x7))]) hC dX4_roughQuotient_80 (by decide) rfl ?_
              obtain ⟨x64, ei65⟩ : ∃ y : Int, x5 + 1 = y := ⟨_, rfl⟩
              replace hb14 := hb14.trans (pf_let_eq ei65)
              refine pm_iinc (y := x64) (lv' := [(6, (0, x64)), (3, (2, y61)), (8, (0, 0)), (0, (3, 84)), (1, (3, 87)), (2, (0, a1)), (5, (0, x3)), (7, (0, x7))]) hC 6 dX4_roughQuotient_81 (by decide) rfl ei65 rfl ?_
              obtain ⟨x66, ei67⟩ : ∃ y : Int, x7 + 1 = y := ⟨_, rfl⟩
              replace hb14 := hb14.trans (pf_let_eq ei67)
              refine pm_iinc (y := x66) (lv' := [(7, (0, x66)), (6, (0, x64)), (3, (2, y61)), (8, (0, 0)), (0, (3, 84)), (1, (3, 87)), (2, (0, a1)), (5, (0, x3))]) hC 7 dX4_roughQuotient_84 (by decide) rfl ei67 rfl ?_
              refine pm_goto (tgt := 11) hC dX4_roughQuotient_87 (by decide) ?_
              refine pm_lvsub [4, 5, 6, 2, 7, 1, 0] (lv' := [(0, (3, 84)), (1, (3, 87)), (2, (0, a1)), (3, (2, y61)), (5, (0, x3)), (6, (0, x64)), (7, (0, x66))]) rfl ?_
              exact ih18 _ (by omega) y61 x3 x64 x66 gd63 ⟨by omega, by omega⟩ ⟨by omega, by omega⟩ ⟨by omega, by omega⟩ (by omega) (by omega) (by omega) (hT.trans (pf_val_inl hb14)) rfl
            · skip
              exfalso; omega
          · skip
            replace hb14 := hb14.trans (if_neg (Int.not_lt.mpr c53))
            refine pm_iconst (v := 1) hC dX4_roughQuotient_41 ?_
            refine pm_goto (tgt := 46) hC dX4_roughQuotient_42 (by decide) ?_
            refine pm_istore (lv' := [(8, (0, 1)), (0, (3, 84)), (1, (3, 87)), (2, (0, a1)), (3, (2, x1)), (5, (0, x3)), (6, (0, x5)), (7, (0, x7))]) hC dX4_roughQuotient_46 (by decide) rfl ?_
            refine pm_iload hC 0 dX4_roughQuotient_48 rfl ?_
            refine pm_if_eq (tgt := 70) hC ⟨by decide, by decide⟩ dX4_roughQuotient_50 (by decide) (fun c68 => ?_) (fun c68 => ?_)
            · skip
              exfalso; omega
            · skip
              refine pm_dload_n hC 4 dX4_roughQuotient_53 rfl ?_
              refine pm_aload_n hC 1 (by decide) dX4_roughQuotient_54 rfl ?_
              refine pm_aload_n hC 2 (by decide) dX4_roughQuotient_55 rfl ?_
              refine pm_iload hC 5 dX4_roughQuotient_56 rfl ?_
              refine pm_callS (as := [(3, 84), (3, 87), (0, x3)]) (st := [(2, x1)]) hC (fD_X4_factorOf_84_87 x3 ⟨by omega, by omega⟩) lm_X4_47 ls_X4_factorOf (by decide) (by decide) rfl rfl (Nat.le_of_ble_eq_true rfl) ⟨Nat.le_refl _, Or.inl rfl⟩ dX4_roughQuotient_58 ⟨rfl, hV0⟩ (fun r69 V70 hp71 => ?_)
              obtain ⟨y72, rfl, b73, rfl, hE74⟩ := hp71
              replace hb14 := hb14.trans (pf_call_eq hE74)
              change pm_J X 61 [(8, (0, 1)), (0, (3, 84)), (1, (3, 87)), (2, (0, a1)), (3, (2, x1)), (5, (0, x3)), (6, (0, x5)), (7, (0, x7))] [(1, y72), (2, x1)] 118 V0
              refine pm_l2dV hC dX4_roughQuotient_61 ?_
              obtain ⟨y75, e76⟩ : ∃ z, fp_m x1 (fp_l y72) = z := ⟨_, rfl⟩
              have gd77 : fp_gd y75 := by rw [← e76]; exact fp_m_gd gd2 (fp_l_gp (x := y72) ⟨by omega, by omega⟩)
              replace hb14 := hb14.trans (pf_let_eq e76)
              refine pm_dmulV hC gd2 (fp_l_gp (x := y72) ⟨by omega, by omega⟩) e76 dX4_roughQuotient_62 ?_
              refine pm_dstore_n (lv' := [(3, (2, y75)), (8, (0, 1)), (0, (3, 84)), (1, (3, 87)), (2, (0, a1)), (5, (0, x3)), (6, (0, x5)), (7, (0, x7))]) hC dX4_roughQuotient_63 (by decide) rfl ?_
              obtain ⟨x78, ei79⟩ : ∃ y : Int, x3 + 1 = y := ⟨_, rfl⟩
              replace hb14 := hb14.trans (pf_let_eq ei79)
              refine pm_iinc (y := x78) (lv' := [(5, (0, x78)), (3, (2, y75)), (8, (0, 1)), (0, (3, 84)), (1, (3, 87)), (2, (0, a1)), (6, (0, x5)), (7, (0, x7))]) hC 5 dX4_roughQuotient_64 (by decide) rfl ei79 rfl ?_
              refine pm_goto (tgt := 84) hC dX4_roughQuotient_67 (by decide) ?_
              obtain ⟨x80, ei81⟩ : ∃ y : Int, x7 + 1 = y := ⟨_, rfl⟩
              replace hb14 := hb14.trans (pf_let_eq ei81)
              refine pm_iinc (y := x80) (lv' := [(7, (0, x80)), (5, (0, x78)), (3, (2, y75)), (8, (0, 1)), (0, (3, 84)), (1, (3, 87)), (2, (0, a1)), (6, (0, x5))]) hC 7 dX4_roughQuotient_84 (by decide) rfl ei81 rfl ?_
              refine pm_goto (tgt := 11) hC dX4_roughQuotient_87 (by decide) ?_
              refine pm_lvsub [4, 5, 6, 2, 1, 7, 0] (lv' := [(0, (3, 84)), (1, (3, 87)), (2, (0, a1)), (3, (2, y75)), (5, (0, x78)), (6, (0, x5)), (7, (0, x80))]) rfl ?_
              exact ih18 _ (by omega) y75 x78 x5 x80 gd77 ⟨by omega, by omega⟩ ⟨by omega, by omega⟩ ⟨by omega, by omega⟩ (by omega) (by omega) (by omega) (hT.trans (pf_val_inl hb14)) rfl
  refine pm_lvsub [4, 5, 6, 3, 2, 1, 0] (lv' := [(0, (3, 84)), (1, (3, 87)), (2, (0, a1)), (3, (2, 4607182418800017408)), (5, (0, 0)), (6, (0, 0)), (7, (0, 0))]) rfl ?_
  exact L15 _ 4607182418800017408 0 0 0 fp_gd1 ⟨by decide, by decide⟩ ⟨by decide, by decide⟩ ⟨by decide, by decide⟩ (by omega) (by omega) (by omega) hT rfl
set_option maxHeartbeats 4000000 in
set_option maxRecDepth 100000 in
theorem fD_X1_begin_79  : pm_K 1 yX1_begin cX1_begin 1 none (fun av V => av = [(3, 79)] ∧ pm_ok 0 90 V) (fun _ V r V' => r = none ∧ pm_ok 0 90 V' ∧ pm_ff [80] [(79, 1)] V V' ∧ F_X1_begin 79 V = (0, V')) := by
  refine pm_MT.of (by decide) ⟨Nat.le_refl _, by decide⟩ (fun av V h => by rw [h.1]; exact (by decide : pm_words [(3, 0)] ≤ 1)) ?_
  rintro X av V0 hC - hR ⟨rfl, hV0⟩
  change pm_J X 0 [(0, (3, 79))] [] 118 V0
  have hT := F_X1_begin_eq 79 V0
  refine pm_aload_n hC 0 (by decide) dX1_begin_0 rfl ?_
  have e1 : V0 79 0 = 80 := hV0.one 79 0 (by decide) (by decide) rfl
  refine pm_getf (v := 80) hC 79 fl_X1_9 rfl rfl (by decide) rfl e1 dX1_begin_1 ?_
  refine pm_iconst (v := 0) hC dX1_begin_4 ?_
  refine pm_lconst (x := 1) hC dX1_begin_5 rfl ?_
  refine pm_lastore (len := 128) hC 80 rfl rfl (by decide) ⟨by decide, by decide⟩ (by decide) dX1_begin_6 ?_
  refine pm_aload_n hC 0 (by decide) dX1_begin_7 rfl ?_
  refine pm_iconst (v := 1) hC dX1_begin_8 ?_
  refine pm_putf hC 79 fl_X1_13 rfl rfl rfl (by decide) rfl trivial dX1_begin_9 ?_
  exact pm_vret hC hR ⟨rfl, ((hV0.put 80 (0 : Int).toNat (x := 1) (lo := (-9223372036854775808)) (hi := 9223372036854775807) rfl ⟨by decide, by decide⟩).put 79 1 (x := 1) (lo := 0) (hi := 128) rfl ⟨by decide, by decide⟩), (((pm_ff.rf (cs := [80]) (fs := [(79, 1)]) (V := V0)).upa 80 (0 : Int).toNat 1 rfl).upf 79 1 1 rfl), hT⟩ dX1_begin_12
set_option maxHeartbeats 4000000 in
set_option maxRecDepth 100000 in
theorem fD_X1_begin_81  : pm_K 1 yX1_begin cX1_begin 1 none (fun av V => av = [(3, 81)] ∧ pm_ok 0 90 V) (fun _ V r V' => r = none ∧ pm_ok 0 90 V' ∧ pm_ff [82] [(81, 1)] V V' ∧ F_X1_begin 81 V = (0, V')) := by
  refine pm_MT.of (by decide) ⟨Nat.le_refl _, by decide⟩ (fun av V h => by rw [h.1]; exact (by decide : pm_words [(3, 0)] ≤ 1)) ?_
  rintro X av V0 hC - hR ⟨rfl, hV0⟩
  change pm_J X 0 [(0, (3, 81))] [] 118 V0
  have hT := F_X1_begin_eq 81 V0
  refine pm_aload_n hC 0 (by decide) dX1_begin_0 rfl ?_
  have e1 : V0 81 0 = 82 := hV0.one 81 0 (by decide) (by decide) rfl
  refine pm_getf (v := 82) hC 81 fl_X1_9 rfl rfl (by decide) rfl e1 dX1_begin_1 ?_
  refine pm_iconst (v := 0) hC dX1_begin_4 ?_
  refine pm_lconst (x := 1) hC dX1_begin_5 rfl ?_
  refine pm_lastore (len := 128) hC 82 rfl rfl (by decide) ⟨by decide, by decide⟩ (by decide) dX1_begin_6 ?_
  refine pm_aload_n hC 0 (by decide) dX1_begin_7 rfl ?_
  refine pm_iconst (v := 1) hC dX1_begin_8 ?_
  refine pm_putf hC 81 fl_X1_13 rfl rfl rfl (by decide) rfl trivial dX1_begin_9 ?_
  exact pm_vret hC hR ⟨rfl, ((hV0.put 82 (0 : Int).toNat (x := 1) (lo := (-9223372036854775808)) (hi := 9223372036854775807) rfl ⟨by decide, by decide⟩).put 81 1 (x := 1) (lo := 0) (hi := 128) rfl ⟨by decide, by decide⟩), (((pm_ff.rf (cs := [82]) (fs := [(81, 1)]) (V := V0)).upa 82 (0 : Int).toNat 1 rfl).upf 81 1 1 rfl), hT⟩ dX1_begin_12
set_option maxHeartbeats 4000000 in
set_option maxRecDepth 100000 in
theorem fD_X1_compareWith_79_81  : pm_K 1 yX1_compareWith cX1_compareWith 3 (some .int) (fun av V => av = [(3, 79), (3, 81)] ∧ pm_ok 0 90 V) (fun _ V r V' => ∃ y, r = some (0, y) ∧ ((-1) ≤ y ∧ y ≤ 1) ∧ V = V' ∧ F_X1_compareWith 79 81 V = (y, V)) := by
  refine pm_MT.of (by decide) ⟨Nat.le_refl _, by decide⟩ (fun av V h => by rw [h.1]; exact (by decide : pm_words [(3, 0), (3, 0)] ≤ 3)) ?_
  rintro X av V0 hC - hR ⟨rfl, hV0⟩
  change pm_J X 0 [(0, (3, 79)), (1, (3, 81))] [] 118 V0
  have hT := F_X1_compareWith_eq 79 81 V0
  refine pm_aload_n hC 0 (by decide) dX1_compareWith_0 rfl ?_
  obtain ⟨y1, e2⟩ : ∃ y, V0 79 1 = y := ⟨_, rfl⟩
  have b3 := hV0.get 79 1 (lo := 0) (hi := 128) (by decide) (by decide) rfl
  rw [e2] at b3
  replace hT := hT.trans (pf_let_eq e2)
  refine pm_getf (v := y1) hC 79 fl_X1_13 rfl rfl (by decide) rfl e2 dX1_compareWith_1 ?_
  refine pm_aload_n hC 1 (by decide) dX1_compareWith_4 rfl ?_
  obtain ⟨y4, e5⟩ : ∃ y, V0 81 1 = y := ⟨_, rfl⟩
  have b6 := hV0.get 81 1 (lo := 0) (hi := 128) (by decide) (by decide) rfl
  rw [e5] at b6
  replace hT := hT.trans (pf_let_eq e5)
  refine pm_getf (v := y4) hC 81 fl_X1_13 rfl rfl (by decide) rfl e5 dX1_compareWith_5 ?_
  refine pm_icmp_eq (tgt := 28) hC ⟨by omega, by omega⟩ ⟨by omega, by omega⟩ dX1_compareWith_8 (by decide) (fun c7 => ?_) (fun c7 => ?_)
  · skip
    replace hT := hT.trans (if_pos c7)
    refine pm_aload_n hC 0 (by decide) dX1_compareWith_28 rfl ?_
    refine pm_getf (v := y1) hC 79 fl_X1_13 rfl rfl (by decide) rfl e2 dX1_compareWith_29 ?_
    refine pm_iconst (v := 1) hC dX1_compareWith_32 ?_
    refine pm_isub hC dX1_compareWith_33 ?_
    refine pm_istore_n (lv' := [(2, (0, (y1 - 1))), (0, (3, 79)), (1, (3, 81))]) hC dX1_compareWith_34 (by decide) rfl ?_
    obtain ⟨B10, hB11, hT⟩ := pf_loop hT
    have L13 : ∀ (N15 : Nat) (x8 : Int), ((-1) ≤ x8 ∧ x8 ≤ 127) → F_X1_compareWith 79 81 V0 = pf_val ((0 : Int), V0) B10 x8 → (Int.toNat (x8 - (-1))) = N15 → pm_J X 35 [(0, (3, 79)), (1, (3, 81)), (2, (0, x8))] [] 118 V0 := by
      intro N15
      induction N15 using Nat.strongRecOn with
      | _ N15 ih16 =>
      intro x8 b9 hT hm14
      have hb12 := congrFun hB11 x8
      refine pm_iload_n hC 2 dX1_compareWith_35 rfl ?_
      refine pm_if_lt (tgt := 83) hC ⟨by omega, by omega⟩ dX1_compareWith_36 (by decide) (fun c17 => ?_) (fun c17 => ?_)
      · skip
        replace hb12 := hb12.trans (if_pos c17)
        refine pm_iconst (v := 0) hC dX1_compareWith_83 ?_
        have hT := hT.trans (pf_val_inr hb12)
        exact pm_iret hC hR pm_nar0 ⟨0, rfl, ⟨by omega, by omega⟩, rfl, hT⟩ dX1_compareWith_84
      · skip
        replace hb12 := hb12.trans (if_neg (Int.not_lt.mpr c17))
        refine pm_aload_n hC 0 (by decide) dX1_compareWith_39 rfl ?_
        have e18 : V0 79 0 = 80 := hV0.one 79 0 (by decide) (by decide) rfl
        refine pm_getf (v := 80) hC 79 fl_X1_9 rfl rfl (by decide) rfl e18 dX1_compareWith_40 ?_
        refine pm_iload_n hC 2 dX1_compareWith_43 rfl ?_
        obtain ⟨y19, e20⟩ : ∃ y, V0 80 (x8 : Int).toNat = y := ⟨_, rfl⟩
        replace hb12 := hb12.trans (pf_let_eq e20)
        have b21 := hV0.get 80 (x8 : Int).toNat (lo := (-9223372036854775808)) (hi := 9223372036854775807) (by decide) (show _ < 128 by omega) rfl
        rw [e20] at b21
        refine pm_laload (len := 128) (v := y19) hC 80 rfl rfl (by decide) ⟨by omega, by omega⟩ (by decide) e20 dX1_compareWith_44 ?_
        refine pm_aload_n hC 1 (by decide) dX1_compareWith_45 rfl ?_
        have e22 : V0 81 0 = 82 := hV0.one 81 0 (by decide) (by decide) rfl
        refine pm_getf (v := 82) hC 81 fl_X1_9 rfl rfl (by decide) rfl e22 dX1_compareWith_46 ?_
        refine pm_iload_n hC 2 dX1_compareWith_49 rfl ?_
        obtain ⟨y23, e24⟩ : ∃ y, V0 82 (x8 : Int).toNat = y := ⟨_, rfl⟩
        replace hb12 := hb12.trans (pf_let_eq e24)
        have b25 := hV0.get 82 (x8 : Int).toNat (lo := (-9223372036854775808)) (hi := 9223372036854775807) (by decide) (show _ < 128 by omega) rfl
        rw [e24] at b25
        refine pm_laload (len := 128) (v := y23) hC 82 rfl rfl (by decide) ⟨by omega, by omega⟩ (by decide) e24 dX1_compareWith_50 ?_
        refine pm_lcmp hC ⟨by omega, by omega⟩ ⟨by omega, by omega⟩ dX1_compareWith_51 (fun y26 b27 => ?_)
        replace hb12 := hb12.trans (pf_let_eq (pm_cmp_u b27))
        refine pm_if_eq (tgt := 77) hC ⟨by omega, by omega⟩ dX1_compareWith_52 (by decide) (fun c28 => ?_) (fun c28 => ?_)
        · skip
          replace hb12 := hb12.trans (if_pos c28)
          obtain ⟨x29, ei30⟩ : ∃ y : Int, x8 + (-1) = y := ⟨_, rfl⟩
          replace hb12 := hb12.trans (pf_let_eq ei30)
          refine pm_iinc (y := x29) (lv' := [(2, (0, x29)), (0, (3, 79)), (1, (3, 81))]) hC 2 dX1_compareWith_77 (by decide) rfl ei30 rfl ?_
          refine pm_goto (tgt := 35) hC dX1_compareWith_80 (by decide) ?_
          refine pm_lvsub [1, 2, 0] (lv' := [(0, (3, 79)), (1, (3, 81)), (2, (0, x29))]) rfl ?_
          exact ih16 _ (by omega) x29 ⟨by omega, by omega⟩ (hT.trans (pf_val_inl hb12)) rfl
        · skip
          replace hb12 := hb12.trans (if_neg c28)
          refine pm_aload_n hC 0 (by decide) dX1_compareWith_55 rfl ?_
          refine pm_getf (v := 80) hC 79 fl_X1_9 rfl rfl (by decide) rfl e18 dX1_compareWith_56 ?_
          refine pm_iload_n hC 2 dX1_compareWith_59 rfl ?_
          refine pm_laload (len := 128) (v := y19) hC 80 rfl rfl (by decide) ⟨by omega, by omega⟩ (by decide) e20 dX1_compareWith_60 ?_
          refine pm_aload_n hC 1 (by decide) dX1_compareWith_61 rfl ?_
          refine pm_getf (v := 82) hC 81 fl_X1_9 rfl rfl (by decide) rfl e22 dX1_compareWith_62 ?_
          refine pm_iload_n hC 2 dX1_compareWith_65 rfl ?_
          refine pm_laload (len := 128) (v := y23) hC 82 rfl rfl (by decide) ⟨by omega, by omega⟩ (by decide) e24 dX1_compareWith_66 ?_
          refine pm_lcmp hC ⟨by omega, by omega⟩ ⟨by omega, by omega⟩ dX1_compareWith_67 (fun y31 b32 => ?_)
          replace hb12 := hb12.trans (pf_let_eq (pm_cmp_u b32))
          refine pm_if_le (tgt := 75) hC ⟨by omega, by omega⟩ dX1_compareWith_68 (by decide) (fun c33 => ?_) (fun c33 => ?_)
          · skip
            replace hb12 := hb12.trans (if_pos c33)
            refine pm_iconst (v := (-1)) hC dX1_compareWith_75 ?_
            have hT := hT.trans (pf_val_inr hb12)
            exact pm_iret hC hR pm_nar0 ⟨(-1), rfl, ⟨by omega, by omega⟩, rfl, hT⟩ dX1_compareWith_76
          · skip
            replace hb12 := hb12.trans (if_neg (Int.not_le.mpr c33))
            refine pm_iconst (v := 1) hC dX1_compareWith_71 ?_
            refine pm_goto (tgt := 76) hC dX1_compareWith_72 (by decide) ?_
            have hT := hT.trans (pf_val_inr hb12)
            exact pm_iret hC hR pm_nar0 ⟨1, rfl, ⟨by omega, by omega⟩, rfl, hT⟩ dX1_compareWith_76
    refine pm_lvsub [1, 2, 0] (lv' := [(0, (3, 79)), (1, (3, 81)), (2, (0, (y1 - 1)))]) rfl ?_
    exact L13 _ (y1 - 1) ⟨by omega, by omega⟩ hT rfl
  · skip
    replace hT := hT.trans (if_neg c7)
    refine pm_aload_n hC 0 (by decide) dX1_compareWith_11 rfl ?_
    refine pm_getf (v := y1) hC 79 fl_X1_13 rfl rfl (by decide) rfl e2 dX1_compareWith_12 ?_
    refine pm_aload_n hC 1 (by decide) dX1_compareWith_15 rfl ?_
    refine pm_getf (v := y4) hC 81 fl_X1_13 rfl rfl (by decide) rfl e5 dX1_compareWith_16 ?_
    refine pm_icmp_le (tgt := 26) hC ⟨by omega, by omega⟩ ⟨by omega, by omega⟩ dX1_compareWith_19 (by decide) (fun c34 => ?_) (fun c34 => ?_)
    · skip
      replace hT := hT.trans (if_pos c34)
      refine pm_iconst (v := (-1)) hC dX1_compareWith_26 ?_
      exact pm_iret hC hR pm_nar0 ⟨(-1), rfl, ⟨by omega, by omega⟩, rfl, hT⟩ dX1_compareWith_27
    · skip
      replace hT := hT.trans (if_neg (Int.not_le.mpr c34))
      refine pm_iconst (v := 1) hC dX1_compareWith_22 ?_
      refine pm_goto (tgt := 27) hC dX1_compareWith_23 (by decide) ?_
      exact pm_iret hC hR pm_nar0 ⟨1, rfl, ⟨by omega, by omega⟩, rfl, hT⟩ dX1_compareWith_27
set_option maxHeartbeats 4000000 in
set_option maxRecDepth 100000 in
theorem fD_X1_times_79 (a1 : Int) (h0 : (-9223372036854775808) ≤ a1 ∧ a1 ≤ 9223372036854775807) : pm_K 1 yX1_times cX1_times 8 none (fun av V => av = [(3, 79), (1, a1)] ∧ pm_ok 0 90 V) (fun _ V r V' => r = none ∧ pm_ok 0 90 V' ∧ pm_ff [80] [(79, 1)] V V' ∧ F_X1_times 79 a1 V = (0, V')) := by
  refine pm_MT.of (by decide) ⟨Nat.le_refl _, by decide⟩ (fun av V h => by rw [h.1]; exact (by decide : pm_words [(3, 0), (1, 0)] ≤ 8)) ?_
  rintro X av V0 hC - hR ⟨rfl, hV0⟩
  change pm_J X 0 [(0, (3, 79)), (1, (1, a1))] [] 118 V0
  have hT := F_X1_times_eq 79 a1 V0
  refine pm_lconst (x := 0) hC dX1_times_0 rfl ?_
  refine pm_lstore_n (lv' := [(3, (1, 0)), (0, (3, 79)), (1, (1, a1))]) hC dX1_times_1 (by decide) rfl ?_
  refine pm_iconst (v := 0) hC dX1_times_2 ?_
  refine pm_istore (lv' := [(5, (0, 0)), (3, (1, 0)), (0, (3, 79)), (1, (1, a1))]) hC dX1_times_3 (by decide) rfl ?_
  obtain ⟨B8, hB9, hT⟩ := pf_loop hT
  have L11 : ∀ (N13 : Nat) (x1 : Int) (x3 : Int) (V5 : pm_M), ((-9223372036854775808) ≤ x1 ∧ x1 ≤ 9223372036854775807) → (0 ≤ x3 ∧ x3 ≤ 499) → pm_ok 0 90 V5 → pm_ff [80] [(79, 1)] V0 V5 → F_X1_times 79 a1 V0 = pf_val ((0 : Int), V0) B8 (x1, x3, V5) → (Int.toNat (499 - x3)) = N13 → pm_J X 5 [(0, (3, 79)), (1, (1, a1)), (3, (1, x1)), (5, (0, x3))] [] 118 V5 := by
    intro N13
    induction N13 using Nat.strongRecOn with
    | _ N13 ih14 =>
    intro x1 x3 V5 b2 b4 hV6 hF7 hT hm12
    have hb10 := congrFun hB9 (x1, x3, V5)
    refine pm_iload hC 3 dX1_times_5 rfl ?_
    refine pm_aload_n hC 0 (by decide) dX1_times_7 rfl ?_
    obtain ⟨y15, e16⟩ : ∃ y, V5 79 1 = y := ⟨_, rfl⟩
    have b17 := hV6.get 79 1 (lo := 0) (hi := 128) (by decide) (by decide) rfl
    rw [e16] at b17
    replace hb10 := hb10.trans (pf_let_eq e16)
    refine pm_getf (v := y15) hC 79 fl_X1_13 rfl rfl (by decide) rfl e16 dX1_times_8 ?_
    refine pm_icmp_ge (tgt := 52) hC ⟨by omega, by omega⟩ ⟨by omega, by omega⟩ dX1_times_11 (by decide) (fun c18 => ?_) (fun c18 => ?_)
    · skip
      replace hb10 := hb10.trans (if_pos c18)
      refine pm_lload_n hC 2 dX1_times_52 rfl ?_
      refine pm_lconst (x := 0) hC dX1_times_53 rfl ?_
      refine pm_lcmp hC ⟨by omega, by omega⟩ ⟨by decide, by decide⟩ dX1_times_54 (fun y19 b20 => ?_)
      replace hb10 := hb10.trans (pf_let_eq (pm_cmp_u b20))
      refine pm_if_le (tgt := 88) hC ⟨by omega, by omega⟩ dX1_times_55 (by decide) (fun c21 => ?_) (fun c21 => ?_)
      · skip
        replace hb10 := hb10.trans (if_pos c21)
        have hT := hT.trans (pf_val_inr hb10)
        exact pm_vret hC hR ⟨rfl, hV6, hF7, hT⟩ dX1_times_88
      · skip
        replace hb10 := hb10.trans (if_neg (Int.not_le.mpr c21))
        refine pm_aload_n hC 0 (by decide) dX1_times_58 rfl ?_
        refine pm_getf (v := y15) hC 79 fl_X1_13 rfl rfl (by decide) rfl e16 dX1_times_59 ?_
        refine pm_sipush (v := 128) hC dX1_times_62 (by decide) ?_
        refine pm_icmp_ge (tgt := 88) hC ⟨by omega, by omega⟩ ⟨by decide, by decide⟩ dX1_times_65 (by decide) (fun c22 => ?_) (fun c22 => ?_)
        · skip
          replace hb10 := hb10.trans (if_pos c22)
          have hT := hT.trans (pf_val_inr hb10)
          exact pm_vret hC hR ⟨rfl, hV6, hF7, hT⟩ dX1_times_88
        · skip
          replace hb10 := hb10.trans (if_neg (Int.not_le.mpr c22))
          refine pm_aload_n hC 0 (by decide) dX1_times_68 rfl ?_
          have e23 : V5 79 0 = 80 := hV6.one 79 0 (by decide) (by decide) rfl
          refine pm_getf (v := 80) hC 79 fl_X1_9 rfl rfl (by decide) rfl e23 dX1_times_69 ?_
          refine pm_aload_n hC 0 (by decide) dX1_times_72 rfl ?_
          refine pm_getf (v := y15) hC 79 fl_X1_13 rfl rfl (by decide) rfl e16 dX1_times_73 ?_
          refine pm_lload_n hC 2 dX1_times_76 rfl ?_
          refine pm_lastore (len := 128) hC 80 rfl rfl (by decide) ⟨by omega, by omega⟩ (by decide) dX1_times_77 ?_
          refine pm_aload_n hC 0 (by decide) dX1_times_78 rfl ?_
          refine pm_dup hC rfl dX1_times_79 ?_
          refine pm_getf (v := y15) hC 79 fl_X1_13 rfl rfl (by decide) rfl e16 dX1_times_80 ?_
          refine pm_iconst (v := 1) hC dX1_times_83 ?_
          refine pm_iadd hC dX1_times_84 ?_
          refine pm_putf hC 79 fl_X1_13 rfl rfl rfl (by decide) rfl trivial dX1_times_85 ?_
          have hT := hT.trans (pf_val_inr hb10)
          exact pm_vret hC hR ⟨rfl, ((hV6.put 80 (y15 : Int).toNat (x := x1) (lo := (-9223372036854775808)) (hi := 9223372036854775807) rfl ⟨by omega, by omega⟩).put 79 1 (x := (y15 + 1)) (lo := 0) (hi := 128) rfl ⟨by omega, by omega⟩), ((hF7.upa 80 (y15 : Int).toNat x1 rfl).upf 79 1 (y15 + 1) rfl), hT⟩ dX1_times_88
    · skip
      replace hb10 := hb10.trans (if_neg (Int.not_le.mpr c18))
      refine pm_aload_n hC 0 (by decide) dX1_times_14 rfl ?_
      have e24 : V5 79 0 = 80 := hV6.one 79 0 (by decide) (by decide) rfl
      refine pm_getf (v := 80) hC 79 fl_X1_9 rfl rfl (by decide) rfl e24 dX1_times_15 ?_
      refine pm_iload hC 3 dX1_times_18 rfl ?_
      obtain ⟨y25, e26⟩ : ∃ y, V5 80 (x3 : Int).toNat = y := ⟨_, rfl⟩
      replace hb10 := hb10.trans (pf_let_eq e26)
      have b27 := hV6.get 80 (x3 : Int).toNat (lo := (-9223372036854775808)) (hi := 9223372036854775807) (by decide) (show _ < 128 by omega) rfl
      rw [e26] at b27
      refine pm_laload (len := 128) (v := y25) hC 80 rfl rfl (by decide) ⟨by omega, by omega⟩ (by decide) e26 dX1_times_20 ?_
      refine pm_lload_n hC 1 dX1_times_21 rfl ?_
      refine pm_lmul hC dX1_times_22 ?_
      refine pm_wrL hC (fun y28 hw30 b29 => ?_)
      replace hb10 := hb10.trans (pf_let_eq hw30)
      have b29 := And.intro b29.1 b29.2
      refine pm_lload_n hC 2 dX1_times_23 rfl ?_
      refine pm_ladd hC dX1_times_24 ?_
      refine pm_wrL hC (fun y31 hw33 b32 => ?_)
      replace hb10 := hb10.trans (pf_let_eq hw33)
      have b32 := And.intro b32.1 b32.2
      refine pm_lstore (lv' := [(6, (1, y31)), (0, (3, 79)), (1, (1, a1)), (3, (1, x1)), (5, (0, x3))]) hC dX1_times_25 (by decide) rfl ?_
      refine pm_aload_n hC 1 (by decide) dX1_times_27 rfl ?_
      refine pm_getf (v := 80) hC 79 fl_X1_9 rfl rfl (by decide) rfl e24 dX1_times_28 ?_
      refine pm_iload hC 4 dX1_times_31 rfl ?_
      refine pm_lload hC 0 dX1_times_33 rfl ?_
      refine pm_ldc2 (v := 1073741823) hC 4185 dX1_times_35 (by decide +kernel) ?_
      refine pm_land hC dX1_times_38 ?_
      have b35 := pm_landb (x := y31) (y := 1073741823) (by decide)
      obtain ⟨y34, hey34⟩ : ∃ z, (pm_landV y31 1073741823) = z := ⟨_, rfl⟩
      rw [hey34] at b35 ⊢
      replace hb10 := hb10.trans (pf_let_eq hey34)
      refine pm_lastore (len := 128) hC 80 rfl rfl (by decide) ⟨by omega, by omega⟩ (by decide) dX1_times_39 ?_
      refine pm_lload hC 0 dX1_times_40 rfl ?_
      refine pm_bipush (v := 30) hC dX1_times_42 (by decide) ?_
      refine pm_lushr hC dX1_times_44 ?_
      have b37 := pm_lushrr y31 30
      obtain ⟨y36, hey36⟩ : ∃ z, (pm_lushrV y31 30) = z := ⟨_, rfl⟩
      rw [hey36] at b37 ⊢
      replace hb10 := hb10.trans (pf_let_eq hey36)
      refine pm_lstore_n (lv' := [(3, (1, y36)), (6, (1, y31)), (0, (3, 79)), (1, (1, a1)), (5, (0, x3))]) hC dX1_times_45 (by decide) rfl ?_
      obtain ⟨x38, ei39⟩ : ∃ y : Int, x3 + 1 = y := ⟨_, rfl⟩
      replace hb10 := hb10.trans (pf_let_eq ei39)
      refine pm_iinc (y := x38) (lv' := [(5, (0, x38)), (3, (1, y36)), (6, (1, y31)), (0, (3, 79)), (1, (1, a1))]) hC 4 dX1_times_46 (by decide) rfl ei39 rfl ?_
      refine pm_goto (tgt := 5) hC dX1_times_49 (by decide) ?_
      refine pm_lvsub [3, 4, 1, 0] (lv' := [(0, (3, 79)), (1, (1, a1)), (3, (1, y36)), (5, (0, x38))]) rfl ?_
      exact ih14 _ (by omega) y36 x38 (pm_up V5 80 (x3 : Int).toNat y34) ⟨by omega, by omega⟩ ⟨by omega, by omega⟩ (hV6.put 80 (x3 : Int).toNat (x := y34) (lo := (-9223372036854775808)) (hi := 9223372036854775807) rfl ⟨by omega, by omega⟩) (hF7.upa 80 (x3 : Int).toNat y34 rfl) (hT.trans (pf_val_inl hb10)) rfl
  refine pm_lvsub [2, 3, 1, 0] (lv' := [(0, (3, 79)), (1, (1, a1)), (3, (1, 0)), (5, (0, 0))]) rfl ?_
  exact L11 _ 0 0 V0 ⟨by decide, by decide⟩ ⟨by decide, by decide⟩ hV0 (pm_ff.rf (cs := [80]) (fs := [(79, 1)]) (V := V0)) hT rfl
set_option maxHeartbeats 4000000 in
set_option maxRecDepth 100000 in
theorem fD_X1_times_81 (a1 : Int) (h0 : (-9223372036854775808) ≤ a1 ∧ a1 ≤ 9223372036854775807) : pm_K 1 yX1_times cX1_times 8 none (fun av V => av = [(3, 81), (1, a1)] ∧ pm_ok 0 90 V) (fun _ V r V' => r = none ∧ pm_ok 0 90 V' ∧ pm_ff [82] [(81, 1)] V V' ∧ F_X1_times 81 a1 V = (0, V')) := by
  refine pm_MT.of (by decide) ⟨Nat.le_refl _, by decide⟩ (fun av V h => by rw [h.1]; exact (by decide : pm_words [(3, 0), (1, 0)] ≤ 8)) ?_
  rintro X av V0 hC - hR ⟨rfl, hV0⟩
  change pm_J X 0 [(0, (3, 81)), (1, (1, a1))] [] 118 V0
  have hT := F_X1_times_eq 81 a1 V0
  refine pm_lconst (x := 0) hC dX1_times_0 rfl ?_
  refine pm_lstore_n (lv' := [(3, (1, 0)), (0, (3, 81)), (1, (1, a1))]) hC dX1_times_1 (by decide) rfl ?_
  refine pm_iconst (v := 0) hC dX1_times_2 ?_
  refine pm_istore (lv' := [(5, (0, 0)), (3, (1, 0)), (0, (3, 81)), (1, (1, a1))]) hC dX1_times_3 (by decide) rfl ?_
  obtain ⟨B8, hB9, hT⟩ := pf_loop hT
  have L11 : ∀ (N13 : Nat) (x1 : Int) (x3 : Int) (V5 : pm_M), ((-9223372036854775808) ≤ x1 ∧ x1 ≤ 9223372036854775807) → (0 ≤ x3 ∧ x3 ≤ 499) → pm_ok 0 90 V5 → pm_ff [82] [(81, 1)] V0 V5 → F_X1_times 81 a1 V0 = pf_val ((0 : Int), V0) B8 (x1, x3, V5) → (Int.toNat (499 - x3)) = N13 → pm_J X 5 [(0, (3, 81)), (1, (1, a1)), (3, (1, x1)), (5, (0, x3))] [] 118 V5 := by
    intro N13
    induction N13 using Nat.strongRecOn with
    | _ N13 ih14 =>
    intro x1 x3 V5 b2 b4 hV6 hF7 hT hm12
    have hb10 := congrFun hB9 (x1, x3, V5)
    refine pm_iload hC 3 dX1_times_5 rfl ?_
    refine pm_aload_n hC 0 (by decide) dX1_times_7 rfl ?_
    obtain ⟨y15, e16⟩ : ∃ y, V5 81 1 = y := ⟨_, rfl⟩
    have b17 := hV6.get 81 1 (lo := 0) (hi := 128) (by decide) (by decide) rfl
    rw [e16] at b17
    replace hb10 := hb10.trans (pf_let_eq e16)
    refine pm_getf (v := y15) hC 81 fl_X1_13 rfl rfl (by decide) rfl e16 dX1_times_8 ?_
    refine pm_icmp_ge (tgt := 52) hC ⟨by omega, by omega⟩ ⟨by omega, by omega⟩ dX1_times_11 (by decide) (fun c18 => ?_) (fun c18 => ?_)
    · skip
      replace hb10 := hb10.trans (if_pos c18)
      refine pm_lload_n hC 2 dX1_times_52 rfl ?_
      refine pm_lconst (x := 0) hC dX1_times_53 rfl ?_
      refine pm_lcmp hC ⟨by omega, by omega⟩ ⟨by decide, by decide⟩ dX1_times_54 (fun y19 b20 => ?_)
      replace hb10 := hb10.trans (pf_let_eq (pm_cmp_u b20))
      refine pm_if_le (tgt := 88) hC ⟨by omega, by omega⟩ dX1_times_55 (by decide) (fun c21 => ?_) (fun c21 => ?_)
      · skip
        replace hb10 := hb10.trans (if_pos c21)
        have hT := hT.trans (pf_val_inr hb10)
        exact pm_vret hC hR ⟨rfl, hV6, hF7, hT⟩ dX1_times_88
      · skip
        replace hb10 := hb10.trans (if_neg (Int.not_le.mpr c21))
        refine pm_aload_n hC 0 (by decide) dX1_times_58 rfl ?_
        refine pm_getf (v := y15) hC 81 fl_X1_13 rfl rfl (by decide) rfl e16 dX1_times_59 ?_
        refine pm_sipush (v := 128) hC dX1_times_62 (by decide) ?_
        refine pm_icmp_ge (tgt := 88) hC ⟨by omega, by omega⟩ ⟨by decide, by decide⟩ dX1_times_65 (by decide) (fun c22 => ?_) (fun c22 => ?_)
        · skip
          replace hb10 := hb10.trans (if_pos c22)
          have hT := hT.trans (pf_val_inr hb10)
          exact pm_vret hC hR ⟨rfl, hV6, hF7, hT⟩ dX1_times_88
        · skip
          replace hb10 := hb10.trans (if_neg (Int.not_le.mpr c22))
          refine pm_aload_n hC 0 (by decide) dX1_times_68 rfl ?_
          have e23 : V5 81 0 = 82 := hV6.one 81 0 (by decide) (by decide) rfl
          refine pm_getf (v := 82) hC 81 fl_X1_9 rfl rfl (by decide) rfl e23 dX1_times_69 ?_
          refine pm_aload_n hC 0 (by decide) dX1_times_72 rfl ?_
          refine pm_getf (v := y15) hC 81 fl_X1_13 rfl rfl (by decide) rfl e16 dX1_times_73 ?_
          refine pm_lload_n hC 2 dX1_times_76 rfl ?_
          refine pm_lastore (len := 128) hC 82 rfl rfl (by decide) ⟨by omega, by omega⟩ (by decide) dX1_times_77 ?_
          refine pm_aload_n hC 0 (by decide) dX1_times_78 rfl ?_
          refine pm_dup hC rfl dX1_times_79 ?_
          refine pm_getf (v := y15) hC 81 fl_X1_13 rfl rfl (by decide) rfl e16 dX1_times_80 ?_
          refine pm_iconst (v := 1) hC dX1_times_83 ?_
          refine pm_iadd hC dX1_times_84 ?_
          refine pm_putf hC 81 fl_X1_13 rfl rfl rfl (by decide) rfl trivial dX1_times_85 ?_
          have hT := hT.trans (pf_val_inr hb10)
          exact pm_vret hC hR ⟨rfl, ((hV6.put 82 (y15 : Int).toNat (x := x1) (lo := (-9223372036854775808)) (hi := 9223372036854775807) rfl ⟨by omega, by omega⟩).put 81 1 (x := (y15 + 1)) (lo := 0) (hi := 128) rfl ⟨by omega, by omega⟩), ((hF7.upa 82 (y15 : Int).toNat x1 rfl).upf 81 1 (y15 + 1) rfl), hT⟩ dX1_times_88
    · skip
      replace hb10 := hb10.trans (if_neg (Int.not_le.mpr c18))
      refine pm_aload_n hC 0 (by decide) dX1_times_14 rfl ?_
      have e24 : V5 81 0 = 82 := hV6.one 81 0 (by decide) (by decide) rfl
      refine pm_getf (v := 82) hC 81 fl_X1_9 rfl rfl (by decide) rfl e24 dX1_times_15 ?_
      refine pm_iload hC 3 dX1_times_18 rfl ?_
      obtain ⟨y25, e26⟩ : ∃ y, V5 82 (x3 : Int).toNat = y := ⟨_, rfl⟩
      replace hb10 := hb10.trans (pf_let_eq e26)
      have b27 := hV6.get 82 (x3 : Int).toNat (lo := (-9223372036854775808)) (hi := 9223372036854775807) (by decide) (show _ < 128 by omega) rfl
      rw [e26] at b27
      refine pm_laload (len := 128) (v := y25) hC 82 rfl rfl (by decide) ⟨by omega, by omega⟩ (by decide) e26 dX1_times_20 ?_
      refine pm_lload_n hC 1 dX1_times_21 rfl ?_
      refine pm_lmul hC dX1_times_22 ?_
      refine pm_wrL hC (fun y28 hw30 b29 => ?_)
      replace hb10 := hb10.trans (pf_let_eq hw30)
      have b29 := And.intro b29.1 b29.2
      refine pm_lload_n hC 2 dX1_times_23 rfl ?_
      refine pm_ladd hC dX1_times_24 ?_
      refine pm_wrL hC (fun y31 hw33 b32 => ?_)
      replace hb10 := hb10.trans (pf_let_eq hw33)
      have b32 := And.intro b32.1 b32.2
      refine pm_lstore (lv' := [(6, (1, y31)), (0, (3, 81)), (1, (1, a1)), (3, (1, x1)), (5, (0, x3))]) hC dX1_times_25 (by decide) rfl ?_
      refine pm_aload_n hC 1 (by decide) dX1_times_27 rfl ?_
      refine pm_getf (v := 82) hC 81 fl_X1_9 rfl rfl (by decide) rfl e24 dX1_times_28 ?_
      refine pm_iload hC 4 dX1_times_31 rfl ?_
      refine pm_lload hC 0 dX1_times_33 rfl ?_
      refine pm_ldc2 (v := 1073741823) hC 4185 dX1_times_35 (by decide +kernel) ?_
      refine pm_land hC dX1_times_38 ?_
      have b35 := pm_landb (x := y31) (y := 1073741823) (by decide)
      obtain ⟨y34, hey34⟩ : ∃ z, (pm_landV y31 1073741823) = z := ⟨_, rfl⟩
      rw [hey34] at b35 ⊢
      replace hb10 := hb10.trans (pf_let_eq hey34)
      refine pm_lastore (len := 128) hC 82 rfl rfl (by decide) ⟨by omega, by omega⟩ (by decide) dX1_times_39 ?_
      refine pm_lload hC 0 dX1_times_40 rfl ?_
      refine pm_bipush (v := 30) hC dX1_times_42 (by decide) ?_
      refine pm_lushr hC dX1_times_44 ?_
      have b37 := pm_lushrr y31 30
      obtain ⟨y36, hey36⟩ : ∃ z, (pm_lushrV y31 30) = z := ⟨_, rfl⟩
      rw [hey36] at b37 ⊢
      replace hb10 := hb10.trans (pf_let_eq hey36)
      refine pm_lstore_n (lv' := [(3, (1, y36)), (6, (1, y31)), (0, (3, 81)), (1, (1, a1)), (5, (0, x3))]) hC dX1_times_45 (by decide) rfl ?_
      obtain ⟨x38, ei39⟩ : ∃ y : Int, x3 + 1 = y := ⟨_, rfl⟩
      replace hb10 := hb10.trans (pf_let_eq ei39)
      refine pm_iinc (y := x38) (lv' := [(5, (0, x38)), (3, (1, y36)), (6, (1, y31)), (0, (3, 81)), (1, (1, a1))]) hC 4 dX1_times_46 (by decide) rfl ei39 rfl ?_
      refine pm_goto (tgt := 5) hC dX1_times_49 (by decide) ?_
      refine pm_lvsub [3, 4, 1, 0] (lv' := [(0, (3, 81)), (1, (1, a1)), (3, (1, y36)), (5, (0, x38))]) rfl ?_
      exact ih14 _ (by omega) y36 x38 (pm_up V5 82 (x3 : Int).toNat y34) ⟨by omega, by omega⟩ ⟨by omega, by omega⟩ (hV6.put 82 (x3 : Int).toNat (x := y34) (lo := (-9223372036854775808)) (hi := 9223372036854775807) rfl ⟨by omega, by omega⟩) (hF7.upa 82 (x3 : Int).toNat y34 rfl) (hT.trans (pf_val_inl hb10)) rfl
  refine pm_lvsub [2, 3, 1, 0] (lv' := [(0, (3, 81)), (1, (1, a1)), (3, (1, 0)), (5, (0, 0))]) rfl ?_
  exact L11 _ 0 0 V0 ⟨by decide, by decide⟩ ⟨by decide, by decide⟩ hV0 (pm_ff.rf (cs := [82]) (fs := [(81, 1)]) (V := V0)) hT rfl
set_option maxHeartbeats 4000000 in
set_option maxRecDepth 100000 in
theorem fD_X4_compareExactly_78_84_87 (a1 : Int) (h0 : 0 ≤ a1 ∧ a1 ≤ 60) : pm_K 2 yX4_compareExactly cX4_compareExactly 5 (some .int) (fun av V => av = [(3, 78), (3, 84), (3, 87), (0, a1)] ∧ pm_ok 0 90 V) (fun _ V r V' => ∃ y, r = some (0, y) ∧ ((-1) ≤ y ∧ y ≤ 1) ∧ pm_ok 0 90 V' ∧ pm_ff [80, 82] [(79, 1), (81, 1)] V V' ∧ F_X4_compareExactly 84 87 a1 V = (y, V')) := by
  refine pm_MT.of (by decide) ⟨Nat.le_refl _, by decide⟩ (fun av V h => by rw [h.1]; exact (by decide : pm_words [(3, 0), (3, 0), (3, 0), (0, 0)] ≤ 5)) ?_
  rintro X av V0 hC - hR ⟨rfl, hV0⟩
  change pm_J X 0 [(0, (3, 78)), (1, (3, 84)), (2, (3, 87)), (3, (0, a1))] [] 118 V0
  have hT := F_X4_compareExactly_eq 84 87 a1 V0
  refine pm_aload_n hC 0 (by decide) dX4_compareExactly_0 rfl ?_
  have e1 : V0 78 0 = 79 := hV0.one 78 0 (by decide) (by decide) rfl
  refine pm_getf (v := 79) hC 78 fl_X4_10 rfl rfl (by decide) rfl e1 dX4_compareExactly_1 ?_
  refine pm_callV (ci := 1) (as := []) (st := []) hC 79 fD_X1_begin_79 lm_X4_62 li_X1_begin (by decide) (by decide) rfl rfl rfl (by decide) rfl rfl (Nat.le_of_ble_eq_true rfl) ⟨Nat.le_refl _, Or.inl rfl⟩ dX4_compareExactly_4 ⟨rfl, hV0⟩ (fun r2 V3 hp4 => ?_)
  obtain ⟨rfl, hV5, hF6, hE7⟩ := hp4
  replace hT := hT.trans (pf_call_eq hE7)
  change pm_J X 7 [(0, (3, 78)), (1, (3, 84)), (2, (3, 87)), (3, (0, a1))] [] 118 V3
  have hF8 := pm_ff.tr (pm_ff.rf (cs := [80, 82]) (fs := [(79, 1), (81, 1)]) (V := V0)) hF6 (by decide) (by decide)
  have e9 : V3 78 0 = 79 := by rw [hF6 78 0 (by decide) (by decide)]; exact e1
  refine pm_aload_n hC 0 (by decide) dX4_compareExactly_7 rfl ?_
  have e10 : V3 78 1 = 81 := hV5.one 78 1 (by decide) (by decide) rfl
  refine pm_getf (v := 81) hC 78 fl_X4_16 rfl rfl (by decide) rfl e10 dX4_compareExactly_8 ?_
  refine pm_callV (ci := 1) (as := []) (st := []) hC 81 fD_X1_begin_81 lm_X4_62 li_X1_begin (by decide) (by decide) rfl rfl rfl (by decide) rfl rfl (Nat.le_of_ble_eq_true rfl) ⟨Nat.le_refl _, Or.inl rfl⟩ dX4_compareExactly_11 ⟨rfl, hV5⟩ (fun r11 V12 hp13 => ?_)
  obtain ⟨rfl, hV14, hF15, hE16⟩ := hp13
  replace hT := hT.trans (pf_call_eq hE16)
  change pm_J X 14 [(0, (3, 78)), (1, (3, 84)), (2, (3, 87)), (3, (0, a1))] [] 118 V12
  have hF17 := pm_ff.tr hF8 hF15 (by decide) (by decide)
  have e18 : V12 78 0 = 79 := by rw [hF15 78 0 (by decide) (by decide)]; exact e9
  have e19 : V12 78 1 = 81 := by rw [hF15 78 1 (by decide) (by decide)]; exact e10
  refine pm_iconst (v := 0) hC dX4_compareExactly_14 ?_
  refine pm_istore (lv' := [(4, (0, 0)), (0, (3, 78)), (1, (3, 84)), (2, (3, 87)), (3, (0, a1))]) hC dX4_compareExactly_15 (by decide) rfl ?_
  obtain ⟨B27, hB28, hT⟩ := pf_loop hT
  have L30 : ∀ (N32 : Nat) (x20 : Int) (V22 : pm_M), (0 ≤ x20 ∧ x20 ≤ 60) → pm_ok 0 90 V22 → pm_ff [80, 82] [(79, 1), (81, 1)] V0 V22 → V22 78 0 = 79 → V22 78 1 = 81 → F_X4_compareExactly 84 87 a1 V0 = pf_val ((0 : Int), V0) B27 (x20, V22) → (Int.toNat (60 - x20)) = N32 → pm_J X 17 [(0, (3, 78)), (1, (3, 84)), (2, (3, 87)), (3, (0, a1)), (4, (0, x20))] [] 118 V22 := by
    intro N32
    induction N32 using Nat.strongRecOn with
    | _ N32 ih33 =>
    intro x20 V22 b21 hV23 hF24 e25 e26 hT hm31
    have hb29 := congrFun hB28 (x20, V22)
    refine pm_iload hC 4 dX4_compareExactly_17 rfl ?_
    refine pm_iload_n hC 3 dX4_compareExactly_19 rfl ?_
    refine pm_icmp_ge (tgt := 119) hC ⟨by omega, by omega⟩ ⟨by omega, by omega⟩ dX4_compareExactly_20 (by decide) (fun c34 => ?_) (fun c34 => ?_)
    · skip
      replace hb29 := hb29.trans (if_pos c34)
      refine pm_aload_n hC 0 (by decide) dX4_compareExactly_119 rfl ?_
      refine pm_getf (v := 79) hC 78 fl_X4_10 rfl rfl (by decide) rfl e25 dX4_compareExactly_120 ?_
      refine pm_aload_n hC 0 (by decide) dX4_compareExactly_123 rfl ?_
      refine pm_getf (v := 81) hC 78 fl_X4_16 rfl rfl (by decide) rfl e26 dX4_compareExactly_124 ?_
      refine pm_callV (ci := 1) (as := [(3, 81)]) (st := []) hC 79 fD_X1_compareWith_79_81 lm_X4_69 li_X1_compareWith (by decide) (by decide) rfl rfl rfl (by decide) rfl rfl (Nat.le_of_ble_eq_true rfl) ⟨Nat.le_refl _, Or.inl rfl⟩ dX4_compareExactly_127 ⟨rfl, hV23⟩ (fun r35 V36 hp37 => ?_)
      obtain ⟨y38, rfl, b39, rfl, hE40⟩ := hp37
      replace hb29 := hb29.trans (pf_call_eq hE40)
      change pm_J X 130 [(0, (3, 78)), (1, (3, 84)), (2, (3, 87)), (3, (0, a1)), (4, (0, x20))] [(0, y38)] 118 V22
      have hT := hT.trans (pf_val_inr hb29)
      exact pm_iret hC hR pm_nar0 ⟨y38, rfl, ⟨by omega, by omega⟩, hV23, hF24, hT⟩ dX4_compareExactly_130
    · skip
      replace hb29 := hb29.trans (if_neg (Int.not_le.mpr c34))
      refine pm_aload_n hC 1 (by decide) dX4_compareExactly_23 rfl ?_
      have e41 : V22 84 1 = 85 := hV23.one 84 1 (by decide) (by decide) rfl
      refine pm_getf (v := 85) hC 84 fl_X4_51 rfl rfl (by decide) rfl e41 dX4_compareExactly_24 ?_
      refine pm_iload hC 4 dX4_compareExactly_27 rfl ?_
      obtain ⟨y42, e43⟩ : ∃ y, V22 85 (x20 : Int).toNat = y := ⟨_, rfl⟩
      replace hb29 := hb29.trans (pf_let_eq e43)
      have b44 := hV23.get 85 (x20 : Int).toNat (lo := (-9223372036854775808)) (hi := 9223372036854775807) (by decide) (show _ < 60 by omega) rfl
      rw [e43] at b44
      refine pm_laload (len := 60) (v := y42) hC 85 rfl rfl (by decide) ⟨by omega, by omega⟩ (by decide) e43 dX4_compareExactly_29 ?_
      refine pm_aload_n hC 2 (by decide) dX4_compareExactly_30 rfl ?_
      have e45 : V22 87 2 = 89 := hV23.one 87 2 (by decide) (by decide) rfl
      refine pm_getf (v := 89) hC 87 fl_X4_55 rfl rfl (by decide) rfl e45 dX4_compareExactly_31 ?_
      refine pm_iload hC 4 dX4_compareExactly_34 rfl ?_
      obtain ⟨y46, e47⟩ : ∃ y, V22 89 (x20 : Int).toNat = y := ⟨_, rfl⟩
      replace hb29 := hb29.trans (pf_let_eq e47)
      have b48 := hV23.get 89 (x20 : Int).toNat (lo := (-9223372036854775808)) (hi := 9223372036854775807) (by decide) (show _ < 60 by omega) rfl
      rw [e47] at b48
      refine pm_laload (len := 60) (v := y46) hC 89 rfl rfl (by decide) ⟨by omega, by omega⟩ (by decide) e47 dX4_compareExactly_36 ?_
      refine pm_lmul hC dX4_compareExactly_37 ?_
      refine pm_wrL hC (fun y49 hw51 b50 => ?_)
      replace hb29 := hb29.trans (pf_let_eq hw51)
      have b50 := And.intro b50.1 b50.2
      refine pm_aload_n hC 2 (by decide) dX4_compareExactly_38 rfl ?_
      have e52 : V22 87 1 = 88 := hV23.one 87 1 (by decide) (by decide) rfl
      refine pm_getf (v := 88) hC 87 fl_X4_51 rfl rfl (by decide) rfl e52 dX4_compareExactly_39 ?_
      refine pm_iload hC 4 dX4_compareExactly_42 rfl ?_
      obtain ⟨y53, e54⟩ : ∃ y, V22 88 (x20 : Int).toNat = y := ⟨_, rfl⟩
      replace hb29 := hb29.trans (pf_let_eq e54)
      have b55 := hV23.get 88 (x20 : Int).toNat (lo := (-9223372036854775808)) (hi := 9223372036854775807) (by decide) (show _ < 60 by omega) rfl
      rw [e54] at b55
      refine pm_laload (len := 60) (v := y53) hC 88 rfl rfl (by decide) ⟨by omega, by omega⟩ (by decide) e54 dX4_compareExactly_44 ?_
      refine pm_aload_n hC 1 (by decide) dX4_compareExactly_45 rfl ?_
      have e56 : V22 84 2 = 86 := hV23.one 84 2 (by decide) (by decide) rfl
      refine pm_getf (v := 86) hC 84 fl_X4_55 rfl rfl (by decide) rfl e56 dX4_compareExactly_46 ?_
      refine pm_iload hC 4 dX4_compareExactly_49 rfl ?_
      obtain ⟨y57, e58⟩ : ∃ y, V22 86 (x20 : Int).toNat = y := ⟨_, rfl⟩
      replace hb29 := hb29.trans (pf_let_eq e58)
      have b59 := hV23.get 86 (x20 : Int).toNat (lo := (-9223372036854775808)) (hi := 9223372036854775807) (by decide) (show _ < 60 by omega) rfl
      rw [e58] at b59
      refine pm_laload (len := 60) (v := y57) hC 86 rfl rfl (by decide) ⟨by omega, by omega⟩ (by decide) e58 dX4_compareExactly_51 ?_
      refine pm_lmul hC dX4_compareExactly_52 ?_
      refine pm_wrL hC (fun y60 hw62 b61 => ?_)
      replace hb29 := hb29.trans (pf_let_eq hw62)
      have b61 := And.intro b61.1 b61.2
      refine pm_lcmp hC ⟨by omega, by omega⟩ ⟨by omega, by omega⟩ dX4_compareExactly_53 (fun y63 b64 => ?_)
      replace hb29 := hb29.trans (pf_let_eq (pm_cmp_u b64))
      refine pm_if_eq (tgt := 113) hC ⟨by omega, by omega⟩ dX4_compareExactly_54 (by decide) (fun c65 => ?_) (fun c65 => ?_)
      · skip
        replace hb29 := hb29.trans (if_pos c65)
        obtain ⟨x66, ei67⟩ : ∃ y : Int, x20 + 1 = y := ⟨_, rfl⟩
        replace hb29 := hb29.trans (pf_let_eq ei67)
        refine pm_iinc (y := x66) (lv' := [(4, (0, x66)), (0, (3, 78)), (1, (3, 84)), (2, (3, 87)), (3, (0, a1))]) hC 4 dX4_compareExactly_113 (by decide) rfl ei67 rfl ?_
        refine pm_goto (tgt := 17) hC dX4_compareExactly_116 (by decide) ?_
        refine pm_lvsub [1, 2, 3, 4, 0] (lv' := [(0, (3, 78)), (1, (3, 84)), (2, (3, 87)), (3, (0, a1)), (4, (0, x66))]) rfl ?_
        exact ih33 _ (by omega) x66 V22 ⟨by omega, by omega⟩ hV23 hF24 e25 e26 (hT.trans (pf_val_inl hb29)) rfl
      · skip
        replace hb29 := hb29.trans (if_neg c65)
        refine pm_aload_n hC 0 (by decide) dX4_compareExactly_57 rfl ?_
        refine pm_getf (v := 79) hC 78 fl_X4_10 rfl rfl (by decide) rfl e25 dX4_compareExactly_58 ?_
        refine pm_aload_n hC 1 (by decide) dX4_compareExactly_61 rfl ?_
        refine pm_getf (v := 85) hC 84 fl_X4_51 rfl rfl (by decide) rfl e41 dX4_compareExactly_62 ?_
        refine pm_iload hC 4 dX4_compareExactly_65 rfl ?_
        refine pm_laload (len := 60) (v := y42) hC 85 rfl rfl (by decide) ⟨by omega, by omega⟩ (by decide) e43 dX4_compareExactly_67 ?_
        refine pm_callV (ci := 1) (as := [(1, y42)]) (st := []) hC 79 (fD_X1_times_79 y42 ⟨by omega, by omega⟩) lm_X4_65 li_X1_times (by decide) (by decide) rfl rfl rfl (by decide) rfl rfl (Nat.le_of_ble_eq_true rfl) ⟨Nat.le_refl _, Or.inl rfl⟩ dX4_compareExactly_68 ⟨rfl, hV23⟩ (fun r68 V69 hp70 => ?_)
        obtain ⟨rfl, hV71, hF72, hE73⟩ := hp70
        replace hb29 := hb29.trans (pf_call_eq hE73)
        change pm_J X 71 [(0, (3, 78)), (1, (3, 84)), (2, (3, 87)), (3, (0, a1)), (4, (0, x20))] [] 118 V69
        have hF74 := pm_ff.tr hF24 hF72 (by decide) (by decide)
        have e75 : V69 78 0 = 79 := by rw [hF72 78 0 (by decide) (by decide)]; exact e25
        have e76 : V69 78 1 = 81 := by rw [hF72 78 1 (by decide) (by decide)]; exact e26
        have e77 : V69 84 1 = 85 := by rw [hF72 84 1 (by decide) (by decide)]; exact e41
        have e78 : V69 87 2 = 89 := by rw [hF72 87 2 (by decide) (by decide)]; exact e45
        have e79 : V69 87 1 = 88 := by rw [hF72 87 1 (by decide) (by decide)]; exact e52
        have e80 : V69 84 2 = 86 := by rw [hF72 84 2 (by decide) (by decide)]; exact e56
        refine pm_aload_n hC 0 (by decide) dX4_compareExactly_71 rfl ?_
        refine pm_getf (v := 79) hC 78 fl_X4_10 rfl rfl (by decide) rfl e75 dX4_compareExactly_72 ?_
        refine pm_aload_n hC 2 (by decide) dX4_compareExactly_75 rfl ?_
        refine pm_getf (v := 89) hC 87 fl_X4_55 rfl rfl (by decide) rfl e78 dX4_compareExactly_76 ?_
        refine pm_iload hC 4 dX4_compareExactly_79 rfl ?_
        obtain ⟨y81, e82⟩ : ∃ y, V69 89 (x20 : Int).toNat = y := ⟨_, rfl⟩
        replace hb29 := hb29.trans (pf_let_eq e82)
        have b83 := hV71.get 89 (x20 : Int).toNat (lo := (-9223372036854775808)) (hi := 9223372036854775807) (by decide) (show _ < 60 by omega) rfl
        rw [e82] at b83
        refine pm_laload (len := 60) (v := y81) hC 89 rfl rfl (by decide) ⟨by omega, by omega⟩ (by decide) e82 dX4_compareExactly_81 ?_
        refine pm_callV (ci := 1) (as := [(1, y81)]) (st := []) hC 79 (fD_X1_times_79 y81 ⟨by omega, by omega⟩) lm_X4_65 li_X1_times (by decide) (by decide) rfl rfl rfl (by decide) rfl rfl (Nat.le_of_ble_eq_true rfl) ⟨Nat.le_refl _, Or.inl rfl⟩ dX4_compareExactly_82 ⟨rfl, hV71⟩ (fun r84 V85 hp86 => ?_)
        obtain ⟨rfl, hV87, hF88, hE89⟩ := hp86
        replace hb29 := hb29.trans (pf_call_eq hE89)
        change pm_J X 85 [(0, (3, 78)), (1, (3, 84)), (2, (3, 87)), (3, (0, a1)), (4, (0, x20))] [] 118 V85
        have hF90 := pm_ff.tr hF74 hF88 (by decide) (by decide)
        have e91 : V85 78 0 = 79 := by rw [hF88 78 0 (by decide) (by decide)]; exact e75
        have e92 : V85 78 1 = 81 := by rw [hF88 78 1 (by decide) (by decide)]; exact e76
        have e93 : V85 84 1 = 85 := by rw [hF88 84 1 (by decide) (by decide)]; exact e77
        have e94 : V85 87 2 = 89 := by rw [hF88 87 2 (by decide) (by decide)]; exact e78
        have e95 : V85 87 1 = 88 := by rw [hF88 87 1 (by decide) (by decide)]; exact e79
        have e96 : V85 84 2 = 86 := by rw [hF88 84 2 (by decide) (by decide)]; exact e80
        refine pm_aload_n hC 0 (by decide) dX4_compareExactly_85 rfl ?_
        refine pm_getf (v := 81) hC 78 fl_X4_16 rfl rfl (by decide) rfl e92 dX4_compareExactly_86 ?_
        refine pm_aload_n hC 2 (by decide) dX4_compareExactly_89 rfl ?_
        refine pm_getf (v := 88) hC 87 fl_X4_51 rfl rfl (by decide) rfl e95 dX4_compareExactly_90 ?_
        refine pm_iload hC 4 dX4_compareExactly_93 rfl ?_
        obtain ⟨y97, e98⟩ : ∃ y, V85 88 (x20 : Int).toNat = y := ⟨_, rfl⟩
        replace hb29 := hb29.trans (pf_let_eq e98)
        have b99 := hV87.get 88 (x20 : Int).toNat (lo := (-9223372036854775808)) (hi := 9223372036854775807) (by decide) (show _ < 60 by omega) rfl
        rw [e98] at b99
        refine pm_laload (len := 60) (v := y97) hC 88 rfl rfl (by decide) ⟨by omega, by omega⟩ (by decide) e98 dX4_compareExactly_95 ?_
        refine pm_callV (ci := 1) (as := [(1, y97)]) (st := []) hC 81 (fD_X1_times_81 y97 ⟨by omega, by omega⟩) lm_X4_65 li_X1_times (by decide) (by decide) rfl rfl rfl (by decide) rfl rfl (Nat.le_of_ble_eq_true rfl) ⟨Nat.le_refl _, Or.inl rfl⟩ dX4_compareExactly_96 ⟨rfl, hV87⟩ (fun r100 V101 hp102 => ?_)
        obtain ⟨rfl, hV103, hF104, hE105⟩ := hp102
        replace hb29 := hb29.trans (pf_call_eq hE105)
        change pm_J X 99 [(0, (3, 78)), (1, (3, 84)), (2, (3, 87)), (3, (0, a1)), (4, (0, x20))] [] 118 V101
        have hF106 := pm_ff.tr hF90 hF104 (by decide) (by decide)
        have e107 : V101 78 0 = 79 := by rw [hF104 78 0 (by decide) (by decide)]; exact e91
        have e108 : V101 78 1 = 81 := by rw [hF104 78 1 (by decide) (by decide)]; exact e92
        have e109 : V101 84 1 = 85 := by rw [hF104 84 1 (by decide) (by decide)]; exact e93
        have e110 : V101 87 2 = 89 := by rw [hF104 87 2 (by decide) (by decide)]; exact e94
        have e111 : V101 87 1 = 88 := by rw [hF104 87 1 (by decide) (by decide)]; exact e95
        have e112 : V101 84 2 = 86 := by rw [hF104 84 2 (by decide) (by decide)]; exact e96
        refine pm_aload_n hC 0 (by decide) dX4_compareExactly_99 rfl ?_
        refine pm_getf (v := 81) hC 78 fl_X4_16 rfl rfl (by decide) rfl e108 dX4_compareExactly_100 ?_
        refine pm_aload_n hC 1 (by decide) dX4_compareExactly_103 rfl ?_
        refine pm_getf (v := 86) hC 84 fl_X4_55 rfl rfl (by decide) rfl e112 dX4_compareExactly_104 ?_
        refine pm_iload hC 4 dX4_compareExactly_107 rfl ?_
        obtain ⟨y113, e114⟩ : ∃ y, V101 86 (x20 : Int).toNat = y := ⟨_, rfl⟩
        replace hb29 := hb29.trans (pf_let_eq e114)
        have b115 := hV103.get 86 (x20 : Int).toNat (lo := (-9223372036854775808)) (hi := 9223372036854775807) (by decide) (show _ < 60 by omega) rfl
        rw [e114] at b115
        refine pm_laload (len := 60) (v := y113) hC 86 rfl rfl (by decide) ⟨by omega, by omega⟩ (by decide) e114 dX4_compareExactly_109 ?_
        refine pm_callV (ci := 1) (as := [(1, y113)]) (st := []) hC 81 (fD_X1_times_81 y113 ⟨by omega, by omega⟩) lm_X4_65 li_X1_times (by decide) (by decide) rfl rfl rfl (by decide) rfl rfl (Nat.le_of_ble_eq_true rfl) ⟨Nat.le_refl _, Or.inl rfl⟩ dX4_compareExactly_110 ⟨rfl, hV103⟩ (fun r116 V117 hp118 => ?_)
        obtain ⟨rfl, hV119, hF120, hE121⟩ := hp118
        replace hb29 := hb29.trans (pf_call_eq hE121)
        change pm_J X 113 [(0, (3, 78)), (1, (3, 84)), (2, (3, 87)), (3, (0, a1)), (4, (0, x20))] [] 118 V117
        have hF122 := pm_ff.tr hF106 hF120 (by decide) (by decide)
        have e123 : V117 78 0 = 79 := by rw [hF120 78 0 (by decide) (by decide)]; exact e107
        have e124 : V117 78 1 = 81 := by rw [hF120 78 1 (by decide) (by decide)]; exact e108
        have e125 : V117 84 1 = 85 := by rw [hF120 84 1 (by decide) (by decide)]; exact e109
        have e126 : V117 87 2 = 89 := by rw [hF120 87 2 (by decide) (by decide)]; exact e110
        have e127 : V117 87 1 = 88 := by rw [hF120 87 1 (by decide) (by decide)]; exact e111
        have e128 : V117 84 2 = 86 := by rw [hF120 84 2 (by decide) (by decide)]; exact e112
        obtain ⟨x129, ei130⟩ : ∃ y : Int, x20 + 1 = y := ⟨_, rfl⟩
        replace hb29 := hb29.trans (pf_let_eq ei130)
        refine pm_iinc (y := x129) (lv' := [(4, (0, x129)), (0, (3, 78)), (1, (3, 84)), (2, (3, 87)), (3, (0, a1))]) hC 4 dX4_compareExactly_113 (by decide) rfl ei130 rfl ?_
        refine pm_goto (tgt := 17) hC dX4_compareExactly_116 (by decide) ?_
        refine pm_lvsub [1, 2, 3, 4, 0] (lv' := [(0, (3, 78)), (1, (3, 84)), (2, (3, 87)), (3, (0, a1)), (4, (0, x129))]) rfl ?_
        exact ih33 _ (by omega) x129 V117 ⟨by omega, by omega⟩ hV119 hF122 e123 e124 (hT.trans (pf_val_inl hb29)) rfl
  refine pm_lvsub [1, 2, 3, 4, 0] (lv' := [(0, (3, 78)), (1, (3, 84)), (2, (3, 87)), (3, (0, a1)), (4, (0, 0))]) rfl ?_
  exact L30 _ 0 V12 ⟨by decide, by decide⟩ hV14 hF17 e18 e19 hT rfl
set_option maxHeartbeats 4000000 in
set_option maxRecDepth 100000 in
theorem fD_X4_compareProducts_78_84_87  : pm_K 3 yX4_compareProducts cX4_compareProducts 8 (some .int) (fun av V => av = [(3, 78), (3, 84), (3, 87)] ∧ pm_ok 0 90 V) (fun _ V r V' => ∃ y, r = some (0, y) ∧ ((-1) ≤ y ∧ y ≤ 1) ∧ pm_ok 0 90 V' ∧ pm_ff [80, 82] [(79, 1), (81, 1)] V V' ∧ F_X4_compareProducts 84 87 V = (y, V')) := by
  refine pm_MT.of (by decide) ⟨Nat.le_refl _, by decide⟩ (fun av V h => by rw [h.1]; exact (by decide : pm_words [(3, 0), (3, 0), (3, 0)] ≤ 8)) ?_
  rintro X av V0 hC - hR ⟨rfl, hV0⟩
  change pm_J X 0 [(0, (3, 78)), (1, (3, 84)), (2, (3, 87))] [] 118 V0
  have hT := F_X4_compareProducts_eq 84 87 V0
  refine pm_aload_n hC 1 (by decide) dX4_compareProducts_0 rfl ?_
  refine pm_callV (ci := 0) (as := []) (st := []) hC 84 fD_X0_isNever_84 lm_X4_19 li_X0_isNever (by decide) (by decide) rfl rfl rfl (by decide) rfl rfl (Nat.le_of_ble_eq_true rfl) ⟨Nat.le_refl _, Or.inl rfl⟩ dX4_compareProducts_1 ⟨rfl, hV0⟩ (fun r1 V2 hp3 => ?_)
  obtain ⟨y4, rfl, b5, rfl, hE6⟩ := hp3
  replace hT := hT.trans (pf_call_eq hE6)
  change pm_J X 4 [(0, (3, 78)), (1, (3, 84)), (2, (3, 87))] [(0, y4)] 118 V0
  refine pm_istore_n (lv' := [(3, (0, y4)), (0, (3, 78)), (1, (3, 84)), (2, (3, 87))]) hC dX4_compareProducts_4 (by decide) rfl ?_
  refine pm_aload_n hC 3 (by decide) dX4_compareProducts_5 rfl ?_
  refine pm_callV (ci := 0) (as := []) (st := []) hC 87 fD_X0_isNever_87 lm_X4_19 li_X0_isNever (by decide) (by decide) rfl rfl rfl (by decide) rfl rfl (Nat.le_of_ble_eq_true rfl) ⟨Nat.le_refl _, Or.inl rfl⟩ dX4_compareProducts_6 ⟨rfl, hV0⟩ (fun r7 V8 hp9 => ?_)
  obtain ⟨y10, rfl, b11, rfl, hE12⟩ := hp9
  replace hT := hT.trans (pf_call_eq hE12)
  change pm_J X 9 [(3, (0, y4)), (0, (3, 78)), (1, (3, 84)), (2, (3, 87))] [(0, y10)] 118 V0
  refine pm_istore (lv' := [(4, (0, y10)), (3, (0, y4)), (0, (3, 78)), (1, (3, 84)), (2, (3, 87))]) hC dX4_compareProducts_9 (by decide) rfl ?_
  refine pm_iload_n hC 1 dX4_compareProducts_11 rfl ?_
  refine pm_if_ne (tgt := 20) hC ⟨by omega, by omega⟩ dX4_compareProducts_12 (by decide) (fun c13 => ?_) (fun c13 => ?_)
  · skip
    replace hT := hT.trans (if_pos c13)
    refine pm_iload hC 0 dX4_compareProducts_20 rfl ?_
    refine pm_if_eq (tgt := 29) hC ⟨by omega, by omega⟩ dX4_compareProducts_22 (by decide) (fun c14 => ?_) (fun c14 => ?_)
    · skip
      replace hT := hT.trans (if_pos c14)
      refine pm_iconst (v := 0) hC dX4_compareProducts_29 ?_
      refine pm_iload_n hC 1 dX4_compareProducts_30 rfl ?_
      refine pm_if_eq (tgt := 38) hC ⟨by omega, by omega⟩ dX4_compareProducts_31 (by decide) (fun c15 => ?_) (fun c15 => ?_)
      · skip
        replace hT := hT.trans (if_pos c15)
        exfalso; omega
      · skip
        replace hT := hT.trans (if_neg c15)
        refine pm_iconst (v := 1) hC dX4_compareProducts_34 ?_
        refine pm_goto (tgt := 39) hC dX4_compareProducts_35 (by decide) ?_
        refine pm_isub hC dX4_compareProducts_39 ?_
        change pm_J X 40 [(4, (0, y10)), (3, (0, y4)), (0, (3, 78)), (1, (3, 84)), (2, (3, 87))] [(0, (-1))] 118 V0
        exact pm_iret hC hR pm_nar0 ⟨(-1), rfl, ⟨by omega, by omega⟩, hV0, (pm_ff.rf (cs := [80, 82]) (fs := [(79, 1), (81, 1)]) (V := V0)), hT⟩ dX4_compareProducts_40
    · skip
      replace hT := hT.trans (if_neg c14)
      refine pm_iconst (v := 1) hC dX4_compareProducts_25 ?_
      refine pm_goto (tgt := 30) hC dX4_compareProducts_26 (by decide) ?_
      refine pm_iload_n hC 1 dX4_compareProducts_30 rfl ?_
      refine pm_if_eq (tgt := 38) hC ⟨by omega, by omega⟩ dX4_compareProducts_31 (by decide) (fun c16 => ?_) (fun c16 => ?_)
      · skip
        replace hT := hT.trans (if_pos c16)
        exfalso; omega
      · skip
        replace hT := hT.trans (if_neg c16)
        refine pm_iconst (v := 1) hC dX4_compareProducts_34 ?_
        refine pm_goto (tgt := 39) hC dX4_compareProducts_35 (by decide) ?_
        refine pm_isub hC dX4_compareProducts_39 ?_
        change pm_J X 40 [(4, (0, y10)), (3, (0, y4)), (0, (3, 78)), (1, (3, 84)), (2, (3, 87))] [(0, 0)] 118 V0
        exact pm_iret hC hR pm_nar0 ⟨0, rfl, ⟨by omega, by omega⟩, hV0, (pm_ff.rf (cs := [80, 82]) (fs := [(79, 1), (81, 1)]) (V := V0)), hT⟩ dX4_compareProducts_40
  · skip
    replace hT := hT.trans (if_neg (fun q => q c13))
    refine pm_iload hC 0 dX4_compareProducts_15 rfl ?_
    refine pm_if_eq (tgt := 41) hC ⟨by omega, by omega⟩ dX4_compareProducts_17 (by decide) (fun c17 => ?_) (fun c17 => ?_)
    · skip
      replace hT := hT.trans (if_pos c17)
      refine pm_aload_n hC 3 (by decide) dX4_compareProducts_41 rfl ?_
      obtain ⟨y18, e19⟩ : ∃ y, V0 84 0 = y := ⟨_, rfl⟩
      have b20 := hV0.get 84 0 (lo := 0) (hi := 60) (by decide) (by decide) rfl
      rw [e19] at b20
      replace hT := hT.trans (pf_let_eq e19)
      refine pm_getf (v := y18) hC 84 fl_X4_25 rfl rfl (by decide) rfl e19 dX4_compareProducts_42 ?_
      refine pm_aload_n hC 4 (by decide) dX4_compareProducts_45 rfl ?_
      obtain ⟨y21, e22⟩ : ∃ y, V0 87 0 = y := ⟨_, rfl⟩
      have b23 := hV0.get 87 0 (lo := 0) (hi := 60) (by decide) (by decide) rfl
      rw [e22] at b23
      replace hT := hT.trans (pf_let_eq e22)
      refine pm_getf (v := y21) hC 87 fl_X4_25 rfl rfl (by decide) rfl e22 dX4_compareProducts_46 ?_
      refine pm_mmin hC 4159 4160 1018 4161 ⟨by omega, by omega⟩ ⟨by omega, by omega⟩ (by decide) wL_X4_29 wS_mmin wI_math wC_mmin (Nat.le_of_ble_eq_true rfl) dX4_compareProducts_49 (fun y24 b25 => ?_)
      have he26 : pm_mn y18 y21 = y24 := pm_mn_of b25
      replace b25 : 0 ≤ y24 ∧ y24 ≤ 60 ∧ y24 ≤ y18 ∧ y24 ≤ y21 := ⟨by omega, by omega, b25.1, b25.2.1⟩
      replace hT := hT.trans (pf_let_eq he26)
      refine pm_istore (lv' := [(5, (0, y24)), (4, (0, y10)), (3, (0, y4)), (0, (3, 78)), (1, (3, 84)), (2, (3, 87))]) hC dX4_compareProducts_52 (by decide) rfl ?_
      refine pm_aload_n hC 4 (by decide) dX4_compareProducts_54 rfl ?_
      refine pm_aload_n hC 5 (by decide) dX4_compareProducts_55 rfl ?_
      refine pm_iload hC 0 dX4_compareProducts_56 rfl ?_
      refine pm_callS (as := [(3, 84), (3, 87), (0, y24)]) (st := []) hC (fD_X4_roughQuotient_84_87 y24 ⟨by omega, by omega⟩) lm_X4_35 ls_X4_roughQuotient (by decide) (by decide) rfl rfl (Nat.le_of_ble_eq_true rfl) ⟨Nat.le_refl _, Or.inl rfl⟩ dX4_compareProducts_58 ⟨rfl, hV0⟩ (fun r27 V28 hp29 => ?_)
      obtain ⟨y30, rfl, b31, rfl, hE32⟩ := hp29
      replace hT := hT.trans (pf_call_eq hE32)
      change pm_J X 61 [(5, (0, y24)), (4, (0, y10)), (3, (0, y4)), (0, (3, 78)), (1, (3, 84)), (2, (3, 87))] [(2, y30)] 118 V0
      refine pm_dstore (lv' := [(6, (2, y30)), (5, (0, y24)), (4, (0, y10)), (3, (0, y4)), (0, (3, 78)), (1, (3, 84)), (2, (3, 87))]) hC dX4_compareProducts_61 (by decide) rfl ?_
      refine pm_dload hC 0 dX4_compareProducts_63 rfl ?_
      refine pm_ldc2dV (v := 4607182418804521008) (z := 4607182418804521008) hC 4171 dX4_compareProducts_65 (by decide +kernel) rfl ?_
      refine pm_dcmpV hC dX4_compareProducts_68 (fun y33 e34 b35 => ?_)
      replace hT := hT.trans (pf_let_eq e34)
      have b35 := And.intro b35.1 b35.2
      refine pm_if_le (tgt := 74) hC ⟨by omega, by omega⟩ dX4_compareProducts_69 (by decide) (fun c36 => ?_) (fun c36 => ?_)
      · skip
        replace hT := hT.trans (if_pos c36)
        refine pm_dload hC 0 dX4_compareProducts_74 rfl ?_
        refine pm_ldc2dV (v := 4607182418791010209) (z := 4607182418791010209) hC 4172 dX4_compareProducts_76 (by decide +kernel) rfl ?_
        refine pm_dcmpV hC dX4_compareProducts_79 (fun y37 e38 b39 => ?_)
        replace hT := hT.trans (pf_let_eq e38)
        have b39 := And.intro b39.1 b39.2
        refine pm_if_ge (tgt := 85) hC ⟨by omega, by omega⟩ dX4_compareProducts_80 (by decide) (fun c40 => ?_) (fun c40 => ?_)
        · skip
          replace hT := hT.trans (if_pos c40)
          refine pm_aload_n hC 4 (by decide) dX4_compareProducts_85 rfl ?_
          refine pm_aload_n hC 5 (by decide) dX4_compareProducts_86 rfl ?_
          refine pm_aload_n hC 6 (by decide) dX4_compareProducts_87 rfl ?_
          refine pm_iload hC 1 dX4_compareProducts_88 rfl ?_
          refine pm_callV (ci := 4) (as := [(3, 84), (3, 87), (0, y24)]) (st := []) hC 78 (fD_X4_compareExactly_78_84_87 y24 ⟨by omega, by omega⟩) lm_X4_43 li_X4_compareExactly (by decide) (by decide) rfl rfl rfl (by decide) rfl rfl (Nat.le_of_ble_eq_true rfl) ⟨Nat.le_refl _, Or.inl rfl⟩ dX4_compareProducts_90 ⟨rfl, hV0⟩ (fun r41 V42 hp43 => ?_)
          obtain ⟨y44, rfl, b45, hV46, hF47, hE48⟩ := hp43
          replace hT := hT.trans (pf_call_eq hE48)
          change pm_J X 93 [(6, (2, y30)), (5, (0, y24)), (4, (0, y10)), (3, (0, y4)), (0, (3, 78)), (1, (3, 84)), (2, (3, 87))] [(0, y44)] 118 V42
          have hF49 := pm_ff.tr (pm_ff.rf (cs := [80, 82]) (fs := [(79, 1), (81, 1)]) (V := V0)) hF47 (by decide) (by decide)
          have e50 : V42 84 0 = y18 := by rw [hF47 84 0 (by decide) (by decide)]; exact e19
          have e51 : V42 87 0 = y21 := by rw [hF47 87 0 (by decide) (by decide)]; exact e22
          exact pm_iret hC hR pm_nar0 ⟨y44, rfl, ⟨by omega, by omega⟩, hV46, hF49, hT⟩ dX4_compareProducts_93
        · skip
          replace hT := hT.trans (if_neg (Int.not_le.mpr c40))
          refine pm_iconst (v := (-1)) hC dX4_compareProducts_83 ?_
          exact pm_iret hC hR pm_nar0 ⟨(-1), rfl, ⟨by omega, by omega⟩, hV0, (pm_ff.rf (cs := [80, 82]) (fs := [(79, 1), (81, 1)]) (V := V0)), hT⟩ dX4_compareProducts_84
      · skip
        replace hT := hT.trans (if_neg (Int.not_le.mpr c36))
        refine pm_iconst (v := 1) hC dX4_compareProducts_72 ?_
        exact pm_iret hC hR pm_nar0 ⟨1, rfl, ⟨by omega, by omega⟩, hV0, (pm_ff.rf (cs := [80, 82]) (fs := [(79, 1), (81, 1)]) (V := V0)), hT⟩ dX4_compareProducts_73
    · skip
      replace hT := hT.trans (if_neg c17)
      refine pm_iload hC 0 dX4_compareProducts_20 rfl ?_
      refine pm_if_eq (tgt := 29) hC ⟨by omega, by omega⟩ dX4_compareProducts_22 (by decide) (fun c52 => ?_) (fun c52 => ?_)
      · skip
        replace hT := hT.trans (if_pos c52)
        exfalso; omega
      · skip
        replace hT := hT.trans (if_neg c52)
        refine pm_iconst (v := 1) hC dX4_compareProducts_25 ?_
        refine pm_goto (tgt := 30) hC dX4_compareProducts_26 (by decide) ?_
        refine pm_iload_n hC 1 dX4_compareProducts_30 rfl ?_
        refine pm_if_eq (tgt := 38) hC ⟨by omega, by omega⟩ dX4_compareProducts_31 (by decide) (fun c53 => ?_) (fun c53 => ?_)
        · skip
          replace hT := hT.trans (if_pos c53)
          refine pm_iconst (v := 0) hC dX4_compareProducts_38 ?_
          refine pm_isub hC dX4_compareProducts_39 ?_
          change pm_J X 40 [(4, (0, y10)), (3, (0, y4)), (0, (3, 78)), (1, (3, 84)), (2, (3, 87))] [(0, 1)] 118 V0
          exact pm_iret hC hR pm_nar0 ⟨1, rfl, ⟨by omega, by omega⟩, hV0, (pm_ff.rf (cs := [80, 82]) (fs := [(79, 1), (81, 1)]) (V := V0)), hT⟩ dX4_compareProducts_40
        · skip
          replace hT := hT.trans (if_neg c53)
          exfalso; omega
set_option maxHeartbeats 4000000 in
set_option maxRecDepth 100000 in
theorem fD_X4_factorOf_84_84 (a1 : Int) (h0 : 0 ≤ a1 ∧ a1 ≤ 119) : pm_K 1 yX4_factorOf cX4_factorOf 6 (some .long) (fun av V => av = [(3, 84), (3, 84), (0, a1)] ∧ pm_ok 0 90 V) (fun _ V r V' => ∃ y, r = some (1, y) ∧ (1 ≤ y ∧ y ≤ 9223372036854775807) ∧ V = V' ∧ F_X4_factorOfS 84 a1 V = (y, V)) := by
  refine pm_MT.of (by decide) ⟨Nat.le_refl _, by decide⟩ (fun av V h => by rw [h.1]; exact (by decide : pm_words [(3, 0), (3, 0), (0, 0)] ≤ 6)) ?_
  rintro X av V0 hC - hR ⟨rfl, hV0⟩
  change pm_J X 0 [(0, (3, 84)), (1, (3, 84)), (2, (0, a1))] [] 118 V0
  have hT := F_X4_factorOfS_eq 84 a1 V0
  refine pm_iload_n hC 2 dX4_factorOf_0 rfl ?_
  refine pm_iconst (v := 2) hC dX4_factorOf_1 ?_
  refine pm_idiv hC ⟨by omega, by omega, by omega⟩ ⟨by decide, by decide, by decide⟩ dX4_factorOf_2 ?_
  refine pm_istore_n (lv' := [(3, (0, (a1 / 2))), (0, (3, 84)), (1, (3, 84)), (2, (0, a1))]) hC dX4_factorOf_3 (by decide) rfl ?_
  refine pm_iload_n hC 3 dX4_factorOf_4 rfl ?_
  refine pm_iconst (v := 2) hC dX4_factorOf_5 ?_
  refine pm_irem hC ⟨by omega, by omega, by omega⟩ ⟨by decide, by decide, by decide⟩ dX4_factorOf_6 ?_
  refine pm_if_ne (tgt := 19) hC ⟨by omega, by omega⟩ dX4_factorOf_7 (by decide) (fun c1 => ?_) (fun c1 => ?_)
  · skip
    replace hT := hT.trans (if_pos c1)
    refine pm_aload_n hC 2 (by decide) dX4_factorOf_19 rfl ?_
    have e2 : V0 84 2 = 86 := hV0.one 84 2 (by decide) (by decide) rfl
    refine pm_getf (v := 86) hC 84 fl_X4_55 rfl rfl (by decide) rfl e2 dX4_factorOf_20 ?_
    refine pm_iload_n hC 0 dX4_factorOf_23 rfl ?_
    obtain ⟨y3, e4⟩ : ∃ y, V0 86 ((a1 / 2) : Int).toNat = y := ⟨_, rfl⟩
    replace hT := hT.trans (pf_let_eq e4)
    have b5 := hV0.get 86 ((a1 / 2) : Int).toNat (lo := (-9223372036854775808)) (hi := 9223372036854775807) (by decide) (show _ < 60 by omega) rfl
    rw [e4] at b5
    refine pm_laload (len := 60) (v := y3) hC 86 rfl rfl (by decide) ⟨by omega, by omega⟩ (by decide) e4 dX4_factorOf_24 ?_
    refine pm_lstore (lv' := [(4, (1, y3)), (3, (0, (a1 / 2))), (0, (3, 84)), (1, (3, 84)), (2, (0, a1))]) hC dX4_factorOf_25 (by decide) rfl ?_
    refine pm_lconst (x := 1) hC dX4_factorOf_27 rfl ?_
    refine pm_lload hC 0 dX4_factorOf_28 rfl ?_
    refine pm_mmaxL hC 4168 4169 1018 4170 ⟨by decide, by decide⟩ ⟨by omega, by omega⟩ (by decide) wL_X4_58 wS_mmaxL wI_math wC_mmaxL (Nat.le_of_ble_eq_true rfl) dX4_factorOf_30 (fun y6 b7 => ?_)
    have he8 : pm_mx 1 y3 = y6 := pm_mx_of b7
    replace b7 : 1 ≤ y6 ∧ y6 ≤ 9223372036854775807 ∧ 1 ≤ y6 ∧ y3 ≤ y6 := ⟨by omega, by omega, b7.1, b7.2.1⟩
    replace hT := hT.trans (pf_let_eq he8)
    exact pm_lret hC hR ⟨y6, rfl, ⟨by omega, by omega⟩, rfl, hT⟩ dX4_factorOf_33
  · skip
    replace hT := hT.trans (if_neg (fun q => q c1))
    refine pm_aload_n hC 1 (by decide) dX4_factorOf_10 rfl ?_
    have e9 : V0 84 1 = 85 := hV0.one 84 1 (by decide) (by decide) rfl
    refine pm_getf (v := 85) hC 84 fl_X4_51 rfl rfl (by decide) rfl e9 dX4_factorOf_11 ?_
    refine pm_iload_n hC 0 dX4_factorOf_14 rfl ?_
    obtain ⟨y10, e11⟩ : ∃ y, V0 85 ((a1 / 2) : Int).toNat = y := ⟨_, rfl⟩
    replace hT := hT.trans (pf_let_eq e11)
    have b12 := hV0.get 85 ((a1 / 2) : Int).toNat (lo := (-9223372036854775808)) (hi := 9223372036854775807) (by decide) (show _ < 60 by omega) rfl
    rw [e11] at b12
    refine pm_laload (len := 60) (v := y10) hC 85 rfl rfl (by decide) ⟨by omega, by omega⟩ (by decide) e11 dX4_factorOf_15 ?_
    refine pm_goto (tgt := 25) hC dX4_factorOf_16 (by decide) ?_
    refine pm_lstore (lv' := [(4, (1, y10)), (3, (0, (a1 / 2))), (0, (3, 84)), (1, (3, 84)), (2, (0, a1))]) hC dX4_factorOf_25 (by decide) rfl ?_
    refine pm_lconst (x := 1) hC dX4_factorOf_27 rfl ?_
    refine pm_lload hC 0 dX4_factorOf_28 rfl ?_
    refine pm_mmaxL hC 4168 4169 1018 4170 ⟨by decide, by decide⟩ ⟨by omega, by omega⟩ (by decide) wL_X4_58 wS_mmaxL wI_math wC_mmaxL (Nat.le_of_ble_eq_true rfl) dX4_factorOf_30 (fun y13 b14 => ?_)
    have he15 : pm_mx 1 y10 = y13 := pm_mx_of b14
    replace b14 : 1 ≤ y13 ∧ y13 ≤ 9223372036854775807 ∧ 1 ≤ y13 ∧ y10 ≤ y13 := ⟨by omega, by omega, b14.1, b14.2.1⟩
    replace hT := hT.trans (pf_let_eq he15)
    exact pm_lret hC hR ⟨y13, rfl, ⟨by omega, by omega⟩, rfl, hT⟩ dX4_factorOf_33
set_option maxHeartbeats 4000000 in
set_option maxRecDepth 100000 in
theorem fD_X4_roughQuotient_84_84 (a1 : Int) (h0 : 0 ≤ a1 ∧ a1 ≤ 60) : pm_K 2 yX4_roughQuotient cX4_roughQuotient 9 (some .double) (fun av V => av = [(3, 84), (3, 84), (0, a1)] ∧ pm_ok 0 90 V) (fun _ V r V' => ∃ y, r = some (2, y) ∧ True ∧ V = V' ∧ F_X4_roughQuotientS 84 a1 V = (y, V)) := by
  refine pm_MT.of (by decide) ⟨Nat.le_refl _, by decide⟩ (fun av V h => by rw [h.1]; exact (by decide : pm_words [(3, 0), (3, 0), (0, 0)] ≤ 9)) ?_
  rintro X av V0 hC - hR ⟨rfl, hV0⟩
  change pm_J X 0 [(0, (3, 84)), (1, (3, 84)), (2, (0, a1))] [] 118 V0
  have hT := F_X4_roughQuotientS_eq 84 a1 V0
  refine pm_dconst1V hC dX4_roughQuotient_0 ?_
  refine pm_dstore_n (lv' := [(3, (2, 4607182418800017408)), (0, (3, 84)), (1, (3, 84)), (2, (0, a1))]) hC dX4_roughQuotient_1 (by decide) rfl ?_
  refine pm_iconst (v := 0) hC dX4_roughQuotient_2 ?_
  refine pm_istore (lv' := [(5, (0, 0)), (3, (2, 4607182418800017408)), (0, (3, 84)), (1, (3, 84)), (2, (0, a1))]) hC dX4_roughQuotient_3 (by decide) rfl ?_
  refine pm_iconst (v := 0) hC dX4_roughQuotient_5 ?_
  refine pm_istore (lv' := [(6, (0, 0)), (5, (0, 0)), (3, (2, 4607182418800017408)), (0, (3, 84)), (1, (3, 84)), (2, (0, a1))]) hC dX4_roughQuotient_6 (by decide) rfl ?_
  refine pm_iconst (v := 0) hC dX4_roughQuotient_8 ?_
  refine pm_istore (lv' := [(7, (0, 0)), (6, (0, 0)), (5, (0, 0)), (3, (2, 4607182418800017408)), (0, (3, 84)), (1, (3, 84)), (2, (0, a1))]) hC dX4_roughQuotient_9 (by decide) rfl ?_
  obtain ⟨B12, hB13, hT⟩ := pf_loop hT
  have L15 : ∀ (N17 : Nat) (x1 : Int) (x3 : Int) (x5 : Int) (x7 : Int), fp_gd x1 → (0 ≤ x3 ∧ x3 ≤ 120) → (0 ≤ x5 ∧ x5 ≤ 120) → (0 ≤ x7 ∧ x7 ≤ 240) → (x3 + x5 = x7) → (x3 ≤ 2 * a1) → (x5 ≤ 2 * a1) → F_X4_roughQuotientS 84 a1 V0 = pf_val ((0 : Int), V0) B12 (x1, x3, x5, x7) → (Int.toNat (240 - x7)) = N17 → pm_J X 11 [(0, (3, 84)), (1, (3, 84)), (2, (0, a1)), (3, (2, x1)), (5, (0, x3)), (6, (0, x5)), (7, (0, x7))] [] 118 V0 := by
    intro N17
    induction N17 using Nat.strongRecOn with
    | _ N17 ih18 =>
    intro x1 x3 x5 x7 gd2 b4 b6 b8 b9 b10 b11 hT hm16
    have hb14 := congrFun hB13 (x1, x3, x5, x7)
    refine pm_iload hC 6 dX4_roughQuotient_11 rfl ?_
    refine pm_iconst (v := 4) hC dX4_roughQuotient_13 ?_
    refine pm_iload_n hC 2 dX4_roughQuotient_14 rfl ?_
    refine pm_imul hC dX4_roughQuotient_15 ?_
    refine pm_icmp_ge (tgt := 90) hC ⟨by omega, by omega⟩ ⟨by omega, by omega⟩ dX4_roughQuotient_16 (by decide) (fun c19 => ?_) (fun c19 => ?_)
    · skip
      replace hb14 := hb14.trans (if_pos c19)
      refine pm_dload_n hC 3 dX4_roughQuotient_90 rfl ?_
      have hT := hT.trans (pf_val_inr hb14)
      exact pm_dret hC hR ⟨x1, rfl, trivial, rfl, hT⟩ dX4_roughQuotient_91
    · skip
      replace hb14 := hb14.trans (if_neg (Int.not_le.mpr c19))
      refine pm_iload hC 5 dX4_roughQuotient_19 rfl ?_
      refine pm_iconst (v := 2) hC dX4_roughQuotient_21 ?_
      refine pm_iload_n hC 2 dX4_roughQuotient_22 rfl ?_
      refine pm_imul hC dX4_roughQuotient_23 ?_
      refine pm_icmp_ge (tgt := 41) hC ⟨by omega, by omega⟩ ⟨by omega, by omega⟩ dX4_roughQuotient_24 (by decide) (fun c20 => ?_) (fun c20 => ?_)
      · skip
        replace hb14 := hb14.trans (if_pos c20)
        refine pm_iconst (v := 1) hC dX4_roughQuotient_41 ?_
        refine pm_goto (tgt := 46) hC dX4_roughQuotient_42 (by decide) ?_
        refine pm_istore (lv' := [(8, (0, 1)), (0, (3, 84)), (1, (3, 84)), (2, (0, a1)), (3, (2, x1)), (5, (0, x3)), (6, (0, x5)), (7, (0, x7))]) hC dX4_roughQuotient_46 (by decide) rfl ?_
        refine pm_iload hC 0 dX4_roughQuotient_48 rfl ?_
        refine pm_if_eq (tgt := 70) hC ⟨by decide, by decide⟩ dX4_roughQuotient_50 (by decide) (fun c21 => ?_) (fun c21 => ?_)
        · skip
          exfalso; omega
        · skip
          refine pm_dload_n hC 4 dX4_roughQuotient_53 rfl ?_
          refine pm_aload_n hC 1 (by decide) dX4_roughQuotient_54 rfl ?_
          refine pm_aload_n hC 2 (by decide) dX4_roughQuotient_55 rfl ?_
          refine pm_iload hC 5 dX4_roughQuotient_56 rfl ?_
          refine pm_callS (as := [(3, 84), (3, 84), (0, x3)]) (st := [(2, x1)]) hC (fD_X4_factorOf_84_84 x3 ⟨by omega, by omega⟩) lm_X4_47 ls_X4_factorOf (by decide) (by decide) rfl rfl (Nat.le_of_ble_eq_true rfl) ⟨Nat.le_refl _, Or.inl rfl⟩ dX4_roughQuotient_58 ⟨rfl, hV0⟩ (fun r22 V23 hp24 => ?_)
          obtain ⟨y25, rfl, b26, rfl, hE27⟩ := hp24
          replace hb14 := hb14.trans (pf_call_eq hE27)
          change pm_J X 61 [(8, (0, 1)), (0, (3, 84)), (1, (3, 84)), (2, (0, a1)), (3, (2, x1)), (5, (0, x3)), (6, (0, x5)), (7, (0, x7))] [(1, y25), (2, x1)] 118 V0
          refine pm_l2dV hC dX4_roughQuotient_61 ?_
          obtain ⟨y28, e29⟩ : ∃ z, fp_m x1 (fp_l y25) = z := ⟨_, rfl⟩
          have gd30 : fp_gd y28 := by rw [← e29]; exact fp_m_gd gd2 (fp_l_gp (x := y25) ⟨by omega, by omega⟩)
          replace hb14 := hb14.trans (pf_let_eq e29)
          refine pm_dmulV hC gd2 (fp_l_gp (x := y25) ⟨by omega, by omega⟩) e29 dX4_roughQuotient_62 ?_
          refine pm_dstore_n (lv' := [(3, (2, y28)), (8, (0, 1)), (0, (3, 84)), (1, (3, 84)), (2, (0, a1)), (5, (0, x3)), (6, (0, x5)), (7, (0, x7))]) hC dX4_roughQuotient_63 (by decide) rfl ?_
          obtain ⟨x31, ei32⟩ : ∃ y : Int, x3 + 1 = y := ⟨_, rfl⟩
          replace hb14 := hb14.trans (pf_let_eq ei32)
          refine pm_iinc (y := x31) (lv' := [(5, (0, x31)), (3, (2, y28)), (8, (0, 1)), (0, (3, 84)), (1, (3, 84)), (2, (0, a1)), (6, (0, x5)), (7, (0, x7))]) hC 5 dX4_roughQuotient_64 (by decide) rfl ei32 rfl ?_
          refine pm_goto (tgt := 84) hC dX4_roughQuotient_67 (by decide) ?_
          obtain ⟨x33, ei34⟩ : ∃ y : Int, x7 + 1 = y := ⟨_, rfl⟩
          replace hb14 := hb14.trans (pf_let_eq ei34)
          refine pm_iinc (y := x33) (lv' := [(7, (0, x33)), (5, (0, x31)), (3, (2, y28)), (8, (0, 1)), (0, (3, 84)), (1, (3, 84)), (2, (0, a1)), (6, (0, x5))]) hC 7 dX4_roughQuotient_84 (by decide) rfl ei34 rfl ?_
          refine pm_goto (tgt := 11) hC dX4_roughQuotient_87 (by decide) ?_
          refine pm_lvsub [4, 5, 6, 2, 1, 7, 0] (lv' := [(0, (3, 84)), (1, (3, 84)), (2, (0, a1)), (3, (2, y28)), (5, (0, x31)), (6, (0, x5)), (7, (0, x33))]) rfl ?_
          exact ih18 _ (by omega) y28 x31 x5 x33 gd30 ⟨by omega, by omega⟩ ⟨by omega, by omega⟩ ⟨by omega, by omega⟩ (by omega) (by omega) (by omega) (hT.trans (pf_val_inl hb14)) rfl
      · skip
        replace hb14 := hb14.trans (if_neg (Int.not_le.mpr c20))
        refine pm_iload hC 4 dX4_roughQuotient_27 rfl ?_
        refine pm_iconst (v := 2) hC dX4_roughQuotient_29 ?_
        refine pm_iload_n hC 2 dX4_roughQuotient_30 rfl ?_
        refine pm_imul hC dX4_roughQuotient_31 ?_
        refine pm_icmp_ge (tgt := 45) hC ⟨by omega, by omega⟩ ⟨by omega, by omega⟩ dX4_roughQuotient_32 (by decide) (fun c35 => ?_) (fun c35 => ?_)
        · skip
          replace hb14 := hb14.trans (if_pos c35)
          refine pm_iconst (v := 0) hC dX4_roughQuotient_45 ?_
          refine pm_istore (lv' := [(8, (0, 0)), (0, (3, 84)), (1, (3, 84)), (2, (0, a1)), (3, (2, x1)), (5, (0, x3)), (6, (0, x5)), (7, (0, x7))]) hC dX4_roughQuotient_46 (by decide) rfl ?_
          refine pm_iload hC 0 dX4_roughQuotient_48 rfl ?_
          refine pm_if_eq (tgt := 70) hC ⟨by decide, by decide⟩ dX4_roughQuotient_50 (by decide) (fun c36 => ?_) (fun c36 => ?_)
          · skip
            refine pm_dload_n hC 4 dX4_roughQuotient_70 rfl ?_
            refine pm_aload_n hC 2 (by decide) dX4_roughQuotient_71 rfl ?_
            refine pm_aload_n hC 1 (by decide) dX4_roughQuotient_72 rfl ?_
            refine pm_iload hC 6 dX4_roughQuotient_73 rfl ?_
            refine pm_callS (as := [(3, 84), (3, 84), (0, x5)]) (st := [(2, x1)]) hC (fD_X4_factorOf_84_84 x5 ⟨by omega, by omega⟩) lm_X4_47 ls_X4_factorOf (by decide) (by decide) rfl rfl (Nat.le_of_ble_eq_true rfl) ⟨Nat.le_refl _, Or.inl rfl⟩ dX4_roughQuotient_75 ⟨rfl, hV0⟩ (fun r37 V38 hp39 => ?_)
            obtain ⟨y40, rfl, b41, rfl, hE42⟩ := hp39
            replace hb14 := hb14.trans (pf_call_eq hE42)
            change pm_J X 78 [(8, (0, 0)), (0, (3, 84)), (1, (3, 84)), (2, (0, a1)), (3, (2, x1)), (5, (0, x3)), (6, (0, x5)), (7, (0, x7))] [(1, y40), (2, x1)] 118 V0
            refine pm_l2dV hC dX4_roughQuotient_78 ?_
            obtain ⟨y43, e44⟩ : ∃ z, fp_d x1 (fp_l y40) = z := ⟨_, rfl⟩
            have gd45 : fp_gd y43 := by rw [← e44]; exact fp_d_gd gd2 (fp_l_gp (x := y40) ⟨by omega, by omega⟩)
            replace hb14 := hb14.trans (pf_let_eq e44)
            refine pm_ddivV hC gd2 (fp_l_gp (x := y40) ⟨by omega, by omega⟩) e44 dX4_roughQuotient_79 ?_
            refine pm_dstore_n (lv' := [(3, (2, y43)), (8, (0, 0)), (0, (3, 84)), (1, (3, 84)), (2, (0, a1)), (5, (0, x3)), (6, (0, x5)), (7, (0, x7))]) hC dX4_roughQuotient_80 (by decide) rfl ?_
            obtain ⟨x46, ei47⟩ : ∃ y : Int, x5 + 1 = y := ⟨_, rfl⟩
            replace hb14 := hb14.trans (pf_let_eq ei47)
            refine pm_iinc (y := x46) (lv' := [(6, (0, x46)), (3, (2, y43)), (8, (0, 0)), (0, (3, 84)), (1, (3, 84)), (2, (0, a1)), (5, (0, x3)), (7, (0, x7))]) hC 6 dX4_roughQuotient_81 (by decide) rfl ei47 rfl ?_
            obtain ⟨x48, ei49⟩ : ∃ y : Int, x7 + 1 = y := ⟨_, rfl⟩
            replace hb14 := hb14.trans (pf_let_eq ei49)
            refine pm_iinc (y := x48) (lv' := [(7, (0, x48)), (6, (0, x46)), (3, (2, y43)), (8, (0, 0)), (0, (3, 84)), (1, (3, 84)), (2, (0, a1)), (5, (0, x3))]) hC 7 dX4_roughQuotient_84 (by decide) rfl ei49 rfl ?_
            refine pm_goto (tgt := 11) hC dX4_roughQuotient_87 (by decide) ?_
            refine pm_lvsub [4, 5, 6, 2, 7, 1, 0] (lv' := [(0, (3, 84)), (1, (3, 84)), (2, (0, a1)), (3, (2, y43)), (5, (0, x3)), (6, (0, x46)), (7, (0, x48))]) rfl ?_
            exact ih18 _ (by omega) y43 x3 x46 x48 gd45 ⟨by omega, by omega⟩ ⟨by omega, by omega⟩ ⟨by omega, by omega⟩ (by omega) (by omega) (by omega) (hT.trans (pf_val_inl hb14)) rfl
          · skip
            exfalso; omega
        · skip
          replace hb14 := hb14.trans (if_neg (Int.not_le.mpr c35))
          refine pm_dload_n hC 3 dX4_roughQuotient_35 rfl ?_
          refine pm_dconst1V hC dX4_roughQuotient_36 ?_
          refine pm_dcmpV hC dX4_roughQuotient_37 (fun y50 e51 b52 => ?_)
          replace hb14 := hb14.trans (pf_let_eq e51)
          have b52 := And.intro b52.1 b52.2
          refine pm_if_gt (tgt := 45) hC ⟨by omega, by omega⟩ dX4_roughQuotient_38 (by decide) (fun c53 => ?_) (fun c53 => ?_)
          · skip
            replace hb14 := hb14.trans (if_pos c53)
            refine pm_iconst (v := 0) hC dX4_roughQuotient_45 ?_
            refine pm_istore (lv' := [(8, (0, 0)), (0, (3, 84)), (1, (3, 84)), (2, (0, a1)), (3, (2, x1)), (5, (0, x3)), (6, (0, x5)), (7, (0, x7))]) hC dX4_roughQuotient_46 (by decide) rfl ?_
            refine pm_iload hC 0 dX4_roughQuotient_48 rfl ?_
            refine pm_if_eq (tgt := 70) hC ⟨by decide, by decide⟩ dX4_roughQuotient_50 (by decide) (fun c54 => ?_) (fun c54 => ?_)
            · skip
              refine pm_dload_n hC 4 dX4_roughQuotient_70 rfl ?_
              refine pm_aload_n hC 2 (by decide) dX4_roughQuotient_71 rfl ?_
              refine pm_aload_n hC 1 (by decide) dX4_roughQuotient_72 rfl ?_
              refine pm_iload hC 6 dX4_roughQuotient_73 rfl ?_
              refine pm_callS (as := [(3, 84), (3, 84), (0, x5)]) (st := [(2, x1)]) hC (fD_X4_factorOf_84_84 x5 ⟨by omega, by omega⟩) lm_X4_47 ls_X4_factorOf (by decide) (by decide) rfl rfl (Nat.le_of_ble_eq_true rfl) ⟨Nat.le_refl _, Or.inl rfl⟩ dX4_roughQuotient_75 ⟨rfl, hV0⟩ (fun r55 V56 hp57 => ?_)
              obtain ⟨y58, rfl, b59, rfl, hE60⟩ := hp57
              replace hb14 := hb14.trans (pf_call_eq hE60)
              change pm_J X 78 [(8, (0, 0)), (0, (3, 84)), (1, (3, 84)), (2, (0, a1)), (3, (2, x1)), (5, (0, x3)), (6, (0, x5)), (7, (0, x7))] [(1, y58), (2, x1)] 118 V0
              refine pm_l2dV hC dX4_roughQuotient_78 ?_
              obtain ⟨y61, e62⟩ : ∃ z, fp_d x1 (fp_l y58) = z := ⟨_, rfl⟩
              have gd63 : fp_gd y61 := by rw [← e62]; exact fp_d_gd gd2 (fp_l_gp (x := y58) ⟨by omega, by omega⟩)
              replace hb14 := hb14.trans (pf_let_eq e62)
              refine pm_ddivV hC gd2 (fp_l_gp (x := y58) ⟨by omega, by omega⟩) e62 dX4_roughQuotient_79 ?_
              refine pm_dstore_n (lv' := [(3, (2, y61)), (8, (0, 0)), (0, (3, 84)), (1, (3, 84)), (2, (0, a1)), (5, (0, x3)), (6, (0, x5)), (7, (0, x7))]) hC dX4_roughQuotient_80 (by decide) rfl ?_
              obtain ⟨x64, ei65⟩ : ∃ y : Int, x5 + 1 = y := ⟨_, rfl⟩
              replace hb14 := hb14.trans (pf_let_eq ei65)
              refine pm_iinc (y := x64) (lv' := [(6, (0, x64)), (3, (2, y61)), (8, (0, 0)), (0, (3, 84)), (1, (3, 84)), (2, (0, a1)), (5, (0, x3)), (7, (0, x7))]) hC 6 dX4_roughQuotient_81 (by decide) rfl ei65 rfl ?_
              obtain ⟨x66, ei67⟩ : ∃ y : Int, x7 + 1 = y := ⟨_, rfl⟩
              replace hb14 := hb14.trans (pf_let_eq ei67)
              refine pm_iinc (y := x66) (lv' := [(7, (0, x66)), (6, (0, x64)), (3, (2, y61)), (8, (0, 0)), (0, (3, 84)), (1, (3, 84)), (2, (0, a1)), (5, (0, x3))]) hC 7 dX4_roughQuotient_84 (by decide) rfl ei67 rfl ?_
              refine pm_goto (tgt := 11) hC dX4_roughQuotient_87 (by decide) ?_
              refine pm_lvsub [4, 5, 6, 2, 7, 1, 0] (lv' := [(0, (3, 84)), (1, (3, 84)), (2, (0, a1)), (3, (2, y61)), (5, (0, x3)), (6, (0, x64)), (7, (0, x66))]) rfl ?_
              exact ih18 _ (by omega) y61 x3 x64 x66 gd63 ⟨by omega, by omega⟩ ⟨by omega, by omega⟩ ⟨by omega, by omega⟩ (by omega) (by omega) (by omega) (hT.trans (pf_val_inl hb14)) rfl
            · skip
              exfalso; omega
          · skip
            replace hb14 := hb14.trans (if_neg (Int.not_lt.mpr c53))
            refine pm_iconst (v := 1) hC dX4_roughQuotient_41 ?_
            refine pm_goto (tgt := 46) hC dX4_roughQuotient_42 (by decide) ?_
            refine pm_istore (lv' := [(8, (0, 1)), (0, (3, 84)), (1, (3, 84)), (2, (0, a1)), (3, (2, x1)), (5, (0, x3)), (6, (0, x5)), (7, (0, x7))]) hC dX4_roughQuotient_46 (by decide) rfl ?_
            refine pm_iload hC 0 dX4_roughQuotient_48 rfl ?_
            refine pm_if_eq (tgt := 70) hC ⟨by decide, by decide⟩ dX4_roughQuotient_50 (by decide) (fun c68 => ?_) (fun c68 => ?_)
            · skip
              exfalso; omega
            · skip
              refine pm_dload_n hC 4 dX4_roughQuotient_53 rfl ?_
              refine pm_aload_n hC 1 (by decide) dX4_roughQuotient_54 rfl ?_
              refine pm_aload_n hC 2 (by decide) dX4_roughQuotient_55 rfl ?_
              refine pm_iload hC 5 dX4_roughQuotient_56 rfl ?_
              refine pm_callS (as := [(3, 84), (3, 84), (0, x3)]) (st := [(2, x1)]) hC (fD_X4_factorOf_84_84 x3 ⟨by omega, by omega⟩) lm_X4_47 ls_X4_factorOf (by decide) (by decide) rfl rfl (Nat.le_of_ble_eq_true rfl) ⟨Nat.le_refl _, Or.inl rfl⟩ dX4_roughQuotient_58 ⟨rfl, hV0⟩ (fun r69 V70 hp71 => ?_)
              obtain ⟨y72, rfl, b73, rfl, hE74⟩ := hp71
              replace hb14 := hb14.trans (pf_call_eq hE74)
              change pm_J X 61 [(8, (0, 1)), (0, (3, 84)), (1, (3, 84)), (2, (0, a1)), (3, (2, x1)), (5, (0, x3)), (6, (0, x5)), (7, (0, x7))] [(1, y72), (2, x1)] 118 V0
              refine pm_l2dV hC dX4_roughQuotient_61 ?_
              obtain ⟨y75, e76⟩ : ∃ z, fp_m x1 (fp_l y72) = z := ⟨_, rfl⟩
              have gd77 : fp_gd y75 := by rw [← e76]; exact fp_m_gd gd2 (fp_l_gp (x := y72) ⟨by omega, by omega⟩)
              replace hb14 := hb14.trans (pf_let_eq e76)
              refine pm_dmulV hC gd2 (fp_l_gp (x := y72) ⟨by omega, by omega⟩) e76 dX4_roughQuotient_62 ?_
              refine pm_dstore_n (lv' := [(3, (2, y75)), (8, (0, 1)), (0, (3, 84)), (1, (3, 84)), (2, (0, a1)), (5, (0, x3)), (6, (0, x5)), (7, (0, x7))]) hC dX4_roughQuotient_63 (by decide) rfl ?_
              obtain ⟨x78, ei79⟩ : ∃ y : Int, x3 + 1 = y := ⟨_, rfl⟩
              replace hb14 := hb14.trans (pf_let_eq ei79)
              refine pm_iinc (y := x78) (lv' := [(5, (0, x78)), (3, (2, y75)), (8, (0, 1)), (0, (3, 84)), (1, (3, 84)), (2, (0, a1)), (6, (0, x5)), (7, (0, x7))]) hC 5 dX4_roughQuotient_64 (by decide) rfl ei79 rfl ?_
              refine pm_goto (tgt := 84) hC dX4_roughQuotient_67 (by decide) ?_
              obtain ⟨x80, ei81⟩ : ∃ y : Int, x7 + 1 = y := ⟨_, rfl⟩
              replace hb14 := hb14.trans (pf_let_eq ei81)
              refine pm_iinc (y := x80) (lv' := [(7, (0, x80)), (5, (0, x78)), (3, (2, y75)), (8, (0, 1)), (0, (3, 84)), (1, (3, 84)), (2, (0, a1)), (6, (0, x5))]) hC 7 dX4_roughQuotient_84 (by decide) rfl ei81 rfl ?_
              refine pm_goto (tgt := 11) hC dX4_roughQuotient_87 (by decide) ?_
              refine pm_lvsub [4, 5, 6, 2, 1, 7, 0] (lv' := [(0, (3, 84)), (1, (3, 84)), (2, (0, a1)), (3, (2, y75)), (5, (0, x78)), (6, (0, x5)), (7, (0, x80))]) rfl ?_
              exact ih18 _ (by omega) y75 x78 x5 x80 gd77 ⟨by omega, by omega⟩ ⟨by omega, by omega⟩ ⟨by omega, by omega⟩ (by omega) (by omega) (by omega) (hT.trans (pf_val_inl hb14)) rfl
  refine pm_lvsub [4, 5, 6, 3, 2, 1, 0] (lv' := [(0, (3, 84)), (1, (3, 84)), (2, (0, a1)), (3, (2, 4607182418800017408)), (5, (0, 0)), (6, (0, 0)), (7, (0, 0))]) rfl ?_
  exact L15 _ 4607182418800017408 0 0 0 fp_gd1 ⟨by decide, by decide⟩ ⟨by decide, by decide⟩ ⟨by decide, by decide⟩ (by omega) (by omega) (by omega) hT rfl
set_option maxHeartbeats 4000000 in
set_option maxRecDepth 100000 in
theorem fD_X4_compareExactly_78_84_84 (a1 : Int) (h0 : 0 ≤ a1 ∧ a1 ≤ 60) : pm_K 2 yX4_compareExactly cX4_compareExactly 5 (some .int) (fun av V => av = [(3, 78), (3, 84), (3, 84), (0, a1)] ∧ pm_ok 0 90 V) (fun _ V r V' => ∃ y, r = some (0, y) ∧ ((-1) ≤ y ∧ y ≤ 1) ∧ pm_ok 0 90 V' ∧ pm_ff [80, 82] [(79, 1), (81, 1)] V V' ∧ F_X4_compareExactlyS 84 a1 V = (y, V')) := by
  refine pm_MT.of (by decide) ⟨Nat.le_refl _, by decide⟩ (fun av V h => by rw [h.1]; exact (by decide : pm_words [(3, 0), (3, 0), (3, 0), (0, 0)] ≤ 5)) ?_
  rintro X av V0 hC - hR ⟨rfl, hV0⟩
  change pm_J X 0 [(0, (3, 78)), (1, (3, 84)), (2, (3, 84)), (3, (0, a1))] [] 118 V0
  have hT := F_X4_compareExactlyS_eq 84 a1 V0
  refine pm_aload_n hC 0 (by decide) dX4_compareExactly_0 rfl ?_
  have e1 : V0 78 0 = 79 := hV0.one 78 0 (by decide) (by decide) rfl
  refine pm_getf (v := 79) hC 78 fl_X4_10 rfl rfl (by decide) rfl e1 dX4_compareExactly_1 ?_
  refine pm_callV (ci := 1) (as := []) (st := []) hC 79 fD_X1_begin_79 lm_X4_62 li_X1_begin (by decide) (by decide) rfl rfl rfl (by decide) rfl rfl (Nat.le_of_ble_eq_true rfl) ⟨Nat.le_refl _, Or.inl rfl⟩ dX4_compareExactly_4 ⟨rfl, hV0⟩ (fun r2 V3 hp4 => ?_)
  obtain ⟨rfl, hV5, hF6, hE7⟩ := hp4
  replace hT := hT.trans (pf_call_eq hE7)
  change pm_J X 7 [(0, (3, 78)), (1, (3, 84)), (2, (3, 84)), (3, (0, a1))] [] 118 V3
  have hF8 := pm_ff.tr (pm_ff.rf (cs := [80, 82]) (fs := [(79, 1), (81, 1)]) (V := V0)) hF6 (by decide) (by decide)
  have e9 : V3 78 0 = 79 := by rw [hF6 78 0 (by decide) (by decide)]; exact e1
  refine pm_aload_n hC 0 (by decide) dX4_compareExactly_7 rfl ?_
  have e10 : V3 78 1 = 81 := hV5.one 78 1 (by decide) (by decide) rfl
  refine pm_getf (v := 81) hC 78 fl_X4_16 rfl rfl (by decide) rfl e10 dX4_compareExactly_8 ?_
  refine pm_callV (ci := 1) (as := []) (st := []) hC 81 fD_X1_begin_81 lm_X4_62 li_X1_begin (by decide) (by decide) rfl rfl rfl (by decide) rfl rfl (Nat.le_of_ble_eq_true rfl) ⟨Nat.le_refl _, Or.inl rfl⟩ dX4_compareExactly_11 ⟨rfl, hV5⟩ (fun r11 V12 hp13 => ?_)
  obtain ⟨rfl, hV14, hF15, hE16⟩ := hp13
  replace hT := hT.trans (pf_call_eq hE16)
  change pm_J X 14 [(0, (3, 78)), (1, (3, 84)), (2, (3, 84)), (3, (0, a1))] [] 118 V12
  have hF17 := pm_ff.tr hF8 hF15 (by decide) (by decide)
  have e18 : V12 78 0 = 79 := by rw [hF15 78 0 (by decide) (by decide)]; exact e9
  have e19 : V12 78 1 = 81 := by rw [hF15 78 1 (by decide) (by decide)]; exact e10
  refine pm_iconst (v := 0) hC dX4_compareExactly_14 ?_
  refine pm_istore (lv' := [(4, (0, 0)), (0, (3, 78)), (1, (3, 84)), (2, (3, 84)), (3, (0, a1))]) hC dX4_compareExactly_15 (by decide) rfl ?_
  obtain ⟨B27, hB28, hT⟩ := pf_loop hT
  have L30 : ∀ (N32 : Nat) (x20 : Int) (V22 : pm_M), (0 ≤ x20 ∧ x20 ≤ 60) → pm_ok 0 90 V22 → pm_ff [80, 82] [(79, 1), (81, 1)] V0 V22 → V22 78 0 = 79 → V22 78 1 = 81 → F_X4_compareExactlyS 84 a1 V0 = pf_val ((0 : Int), V0) B27 (x20, V22) → (Int.toNat (60 - x20)) = N32 → pm_J X 17 [(0, (3, 78)), (1, (3, 84)), (2, (3, 84)), (3, (0, a1)), (4, (0, x20))] [] 118 V22 := by
    intro N32
    induction N32 using Nat.strongRecOn with
    | _ N32 ih33 =>
    intro x20 V22 b21 hV23 hF24 e25 e26 hT hm31
    have hb29 := congrFun hB28 (x20, V22)
    refine pm_iload hC 4 dX4_compareExactly_17 rfl ?_
    refine pm_iload_n hC 3 dX4_compareExactly_19 rfl ?_
    refine pm_icmp_ge (tgt := 119) hC ⟨by omega, by omega⟩ ⟨by omega, by omega⟩ dX4_compareExactly_20 (by decide) (fun c34 => ?_) (fun c34 => ?_)
    · skip
      replace hb29 := hb29.trans (if_pos c34)
      refine pm_aload_n hC 0 (by decide) dX4_compareExactly_119 rfl ?_
      refine pm_getf (v := 79) hC 78 fl_X4_10 rfl rfl (by decide) rfl e25 dX4_compareExactly_120 ?_
      refine pm_aload_n hC 0 (by decide) dX4_compareExactly_123 rfl ?_
      refine pm_getf (v := 81) hC 78 fl_X4_16 rfl rfl (by decide) rfl e26 dX4_compareExactly_124 ?_
      refine pm_callV (ci := 1) (as := [(3, 81)]) (st := []) hC 79 fD_X1_compareWith_79_81 lm_X4_69 li_X1_compareWith (by decide) (by decide) rfl rfl rfl (by decide) rfl rfl (Nat.le_of_ble_eq_true rfl) ⟨Nat.le_refl _, Or.inl rfl⟩ dX4_compareExactly_127 ⟨rfl, hV23⟩ (fun r35 V36 hp37 => ?_)
      obtain ⟨y38, rfl, b39, rfl, hE40⟩ := hp37
      replace hb29 := hb29.trans (pf_call_eq hE40)
      change pm_J X 130 [(0, (3, 78)), (1, (3, 84)), (2, (3, 84)), (3, (0, a1)), (4, (0, x20))] [(0, y38)] 118 V22
      have hT := hT.trans (pf_val_inr hb29)
      exact pm_iret hC hR pm_nar0 ⟨y38, rfl, ⟨by omega, by omega⟩, hV23, hF24, hT⟩ dX4_compareExactly_130
    · skip
      replace hb29 := hb29.trans (if_neg (Int.not_le.mpr c34))
      refine pm_aload_n hC 1 (by decide) dX4_compareExactly_23 rfl ?_
      have e41 : V22 84 1 = 85 := hV23.one 84 1 (by decide) (by decide) rfl
      refine pm_getf (v := 85) hC 84 fl_X4_51 rfl rfl (by decide) rfl e41 dX4_compareExactly_24 ?_
      refine pm_iload hC 4 dX4_compareExactly_27 rfl ?_
      obtain ⟨y42, e43⟩ : ∃ y, V22 85 (x20 : Int).toNat = y := ⟨_, rfl⟩
      replace hb29 := hb29.trans (pf_let_eq e43)
      have b44 := hV23.get 85 (x20 : Int).toNat (lo := (-9223372036854775808)) (hi := 9223372036854775807) (by decide) (show _ < 60 by omega) rfl
      rw [e43] at b44
      refine pm_laload (len := 60) (v := y42) hC 85 rfl rfl (by decide) ⟨by omega, by omega⟩ (by decide) e43 dX4_compareExactly_29 ?_
      refine pm_aload_n hC 2 (by decide) dX4_compareExactly_30 rfl ?_
      have e45 : V22 84 2 = 86 := hV23.one 84 2 (by decide) (by decide) rfl
      refine pm_getf (v := 86) hC 84 fl_X4_55 rfl rfl (by decide) rfl e45 dX4_compareExactly_31 ?_
      refine pm_iload hC 4 dX4_compareExactly_34 rfl ?_
      obtain ⟨y46, e47⟩ : ∃ y, V22 86 (x20 : Int).toNat = y := ⟨_, rfl⟩
      replace hb29 := hb29.trans (pf_let_eq e47)
      have b48 := hV23.get 86 (x20 : Int).toNat (lo := (-9223372036854775808)) (hi := 9223372036854775807) (by decide) (show _ < 60 by omega) rfl
      rw [e47] at b48
      refine pm_laload (len := 60) (v := y46) hC 86 rfl rfl (by decide) ⟨by omega, by omega⟩ (by decide) e47 dX4_compareExactly_36 ?_
      refine pm_lmul hC dX4_compareExactly_37 ?_
      refine pm_wrL hC (fun y49 hw51 b50 => ?_)
      replace hb29 := hb29.trans (pf_let_eq hw51)
      have b50 := And.intro b50.1 b50.2
      refine pm_aload_n hC 2 (by decide) dX4_compareExactly_38 rfl ?_
      refine pm_getf (v := 85) hC 84 fl_X4_51 rfl rfl (by decide) rfl e41 dX4_compareExactly_39 ?_
      refine pm_iload hC 4 dX4_compareExactly_42 rfl ?_
      refine pm_laload (len := 60) (v := y42) hC 85 rfl rfl (by decide) ⟨by omega, by omega⟩ (by decide) e43 dX4_compareExactly_44 ?_
      refine pm_aload_n hC 1 (by decide) dX4_compareExactly_45 rfl ?_
      refine pm_getf (v := 86) hC 84 fl_X4_55 rfl rfl (by decide) rfl e45 dX4_compareExactly_46 ?_
      refine pm_iload hC 4 dX4_compareExactly_49 rfl ?_
      refine pm_laload (len := 60) (v := y46) hC 86 rfl rfl (by decide) ⟨by omega, by omega⟩ (by decide) e47 dX4_compareExactly_51 ?_
      refine pm_lmul hC dX4_compareExactly_52 ?_
      refine pm_wrL hC (fun y52 hw54 b53 => ?_)
      replace hb29 := hb29.trans (pf_let_eq hw54)
      have b53 := And.intro b53.1 b53.2
      refine pm_lcmp hC ⟨by omega, by omega⟩ ⟨by omega, by omega⟩ dX4_compareExactly_53 (fun y55 b56 => ?_)
      replace hb29 := hb29.trans (pf_let_eq (pm_cmp_u b56))
      refine pm_if_eq (tgt := 113) hC ⟨by omega, by omega⟩ dX4_compareExactly_54 (by decide) (fun c57 => ?_) (fun c57 => ?_)
      · skip
        replace hb29 := hb29.trans (if_pos c57)
        obtain ⟨x58, ei59⟩ : ∃ y : Int, x20 + 1 = y := ⟨_, rfl⟩
        replace hb29 := hb29.trans (pf_let_eq ei59)
        refine pm_iinc (y := x58) (lv' := [(4, (0, x58)), (0, (3, 78)), (1, (3, 84)), (2, (3, 84)), (3, (0, a1))]) hC 4 dX4_compareExactly_113 (by decide) rfl ei59 rfl ?_
        refine pm_goto (tgt := 17) hC dX4_compareExactly_116 (by decide) ?_
        refine pm_lvsub [1, 2, 3, 4, 0] (lv' := [(0, (3, 78)), (1, (3, 84)), (2, (3, 84)), (3, (0, a1)), (4, (0, x58))]) rfl ?_
        exact ih33 _ (by omega) x58 V22 ⟨by omega, by omega⟩ hV23 hF24 e25 e26 (hT.trans (pf_val_inl hb29)) rfl
      · skip
        replace hb29 := hb29.trans (if_neg c57)
        refine pm_aload_n hC 0 (by decide) dX4_compareExactly_57 rfl ?_
        refine pm_getf (v := 79) hC 78 fl_X4_10 rfl rfl (by decide) rfl e25 dX4_compareExactly_58 ?_
        refine pm_aload_n hC 1 (by decide) dX4_compareExactly_61 rfl ?_
        refine pm_getf (v := 85) hC 84 fl_X4_51 rfl rfl (by decide) rfl e41 dX4_compareExactly_62 ?_
        refine pm_iload hC 4 dX4_compareExactly_65 rfl ?_
        refine pm_laload (len := 60) (v := y42) hC 85 rfl rfl (by decide) ⟨by omega, by omega⟩ (by decide) e43 dX4_compareExactly_67 ?_
        refine pm_callV (ci := 1) (as := [(1, y42)]) (st := []) hC 79 (fD_X1_times_79 y42 ⟨by omega, by omega⟩) lm_X4_65 li_X1_times (by decide) (by decide) rfl rfl rfl (by decide) rfl rfl (Nat.le_of_ble_eq_true rfl) ⟨Nat.le_refl _, Or.inl rfl⟩ dX4_compareExactly_68 ⟨rfl, hV23⟩ (fun r60 V61 hp62 => ?_)
        obtain ⟨rfl, hV63, hF64, hE65⟩ := hp62
        replace hb29 := hb29.trans (pf_call_eq hE65)
        change pm_J X 71 [(0, (3, 78)), (1, (3, 84)), (2, (3, 84)), (3, (0, a1)), (4, (0, x20))] [] 118 V61
        have hF66 := pm_ff.tr hF24 hF64 (by decide) (by decide)
        have e67 : V61 78 0 = 79 := by rw [hF64 78 0 (by decide) (by decide)]; exact e25
        have e68 : V61 78 1 = 81 := by rw [hF64 78 1 (by decide) (by decide)]; exact e26
        have e69 : V61 84 1 = 85 := by rw [hF64 84 1 (by decide) (by decide)]; exact e41
        have e70 : V61 84 2 = 86 := by rw [hF64 84 2 (by decide) (by decide)]; exact e45
        refine pm_aload_n hC 0 (by decide) dX4_compareExactly_71 rfl ?_
        refine pm_getf (v := 79) hC 78 fl_X4_10 rfl rfl (by decide) rfl e67 dX4_compareExactly_72 ?_
        refine pm_aload_n hC 2 (by decide) dX4_compareExactly_75 rfl ?_
        refine pm_getf (v := 86) hC 84 fl_X4_55 rfl rfl (by decide) rfl e70 dX4_compareExactly_76 ?_
        refine pm_iload hC 4 dX4_compareExactly_79 rfl ?_
        obtain ⟨y71, e72⟩ : ∃ y, V61 86 (x20 : Int).toNat = y := ⟨_, rfl⟩
        replace hb29 := hb29.trans (pf_let_eq e72)
        have b73 := hV63.get 86 (x20 : Int).toNat (lo := (-9223372036854775808)) (hi := 9223372036854775807) (by decide) (show _ < 60 by omega) rfl
        rw [e72] at b73
        refine pm_laload (len := 60) (v := y71) hC 86 rfl rfl (by decide) ⟨by omega, by omega⟩ (by decide) e72 dX4_compareExactly_81 ?_
        refine pm_callV (ci := 1) (as := [(1, y71)]) (st := []) hC 79 (fD_X1_times_79 y71 ⟨by omega, by omega⟩) lm_X4_65 li_X1_times (by decide) (by decide) rfl rfl rfl (by decide) rfl rfl (Nat.le_of_ble_eq_true rfl) ⟨Nat.le_refl _, Or.inl rfl⟩ dX4_compareExactly_82 ⟨rfl, hV63⟩ (fun r74 V75 hp76 => ?_)
        obtain ⟨rfl, hV77, hF78, hE79⟩ := hp76
        replace hb29 := hb29.trans (pf_call_eq hE79)
        change pm_J X 85 [(0, (3, 78)), (1, (3, 84)), (2, (3, 84)), (3, (0, a1)), (4, (0, x20))] [] 118 V75
        have hF80 := pm_ff.tr hF66 hF78 (by decide) (by decide)
        have e81 : V75 78 0 = 79 := by rw [hF78 78 0 (by decide) (by decide)]; exact e67
        have e82 : V75 78 1 = 81 := by rw [hF78 78 1 (by decide) (by decide)]; exact e68
        have e83 : V75 84 1 = 85 := by rw [hF78 84 1 (by decide) (by decide)]; exact e69
        have e84 : V75 84 2 = 86 := by rw [hF78 84 2 (by decide) (by decide)]; exact e70
        refine pm_aload_n hC 0 (by decide) dX4_compareExactly_85 rfl ?_
        refine pm_getf (v := 81) hC 78 fl_X4_16 rfl rfl (by decide) rfl e82 dX4_compareExactly_86 ?_
        refine pm_aload_n hC 2 (by decide) dX4_compareExactly_89 rfl ?_
        refine pm_getf (v := 85) hC 84 fl_X4_51 rfl rfl (by decide) rfl e83 dX4_compareExactly_90 ?_
        refine pm_iload hC 4 dX4_compareExactly_93 rfl ?_
        obtain ⟨y85, e86⟩ : ∃ y, V75 85 (x20 : Int).toNat = y := ⟨_, rfl⟩
        replace hb29 := hb29.trans (pf_let_eq e86)
        have b87 := hV77.get 85 (x20 : Int).toNat (lo := (-9223372036854775808)) (hi := 9223372036854775807) (by decide) (show _ < 60 by omega) rfl
        rw [e86] at b87
        refine pm_laload (len := 60) (v := y85) hC 85 rfl rfl (by decide) ⟨by omega, by omega⟩ (by decide) e86 dX4_compareExactly_95 ?_
        refine pm_callV (ci := 1) (as := [(1, y85)]) (st := []) hC 81 (fD_X1_times_81 y85 ⟨by omega, by omega⟩) lm_X4_65 li_X1_times (by decide) (by decide) rfl rfl rfl (by decide) rfl rfl (Nat.le_of_ble_eq_true rfl) ⟨Nat.le_refl _, Or.inl rfl⟩ dX4_compareExactly_96 ⟨rfl, hV77⟩ (fun r88 V89 hp90 => ?_)
        obtain ⟨rfl, hV91, hF92, hE93⟩ := hp90
        replace hb29 := hb29.trans (pf_call_eq hE93)
        change pm_J X 99 [(0, (3, 78)), (1, (3, 84)), (2, (3, 84)), (3, (0, a1)), (4, (0, x20))] [] 118 V89
        have hF94 := pm_ff.tr hF80 hF92 (by decide) (by decide)
        have e95 : V89 78 0 = 79 := by rw [hF92 78 0 (by decide) (by decide)]; exact e81
        have e96 : V89 78 1 = 81 := by rw [hF92 78 1 (by decide) (by decide)]; exact e82
        have e97 : V89 84 1 = 85 := by rw [hF92 84 1 (by decide) (by decide)]; exact e83
        have e98 : V89 84 2 = 86 := by rw [hF92 84 2 (by decide) (by decide)]; exact e84
        refine pm_aload_n hC 0 (by decide) dX4_compareExactly_99 rfl ?_
        refine pm_getf (v := 81) hC 78 fl_X4_16 rfl rfl (by decide) rfl e96 dX4_compareExactly_100 ?_
        refine pm_aload_n hC 1 (by decide) dX4_compareExactly_103 rfl ?_
        refine pm_getf (v := 86) hC 84 fl_X4_55 rfl rfl (by decide) rfl e98 dX4_compareExactly_104 ?_
        refine pm_iload hC 4 dX4_compareExactly_107 rfl ?_
        obtain ⟨y99, e100⟩ : ∃ y, V89 86 (x20 : Int).toNat = y := ⟨_, rfl⟩
        replace hb29 := hb29.trans (pf_let_eq e100)
        have b101 := hV91.get 86 (x20 : Int).toNat (lo := (-9223372036854775808)) (hi := 9223372036854775807) (by decide) (show _ < 60 by omega) rfl
        rw [e100] at b101
        refine pm_laload (len := 60) (v := y99) hC 86 rfl rfl (by decide) ⟨by omega, by omega⟩ (by decide) e100 dX4_compareExactly_109 ?_
        refine pm_callV (ci := 1) (as := [(1, y99)]) (st := []) hC 81 (fD_X1_times_81 y99 ⟨by omega, by omega⟩) lm_X4_65 li_X1_times (by decide) (by decide) rfl rfl rfl (by decide) rfl rfl (Nat.le_of_ble_eq_true rfl) ⟨Nat.le_refl _, Or.inl rfl⟩ dX4_compareExactly_110 ⟨rfl, hV91⟩ (fun r102 V103 hp104 => ?_)
        obtain ⟨rfl, hV105, hF106, hE107⟩ := hp104
        replace hb29 := hb29.trans (pf_call_eq hE107)
        change pm_J X 113 [(0, (3, 78)), (1, (3, 84)), (2, (3, 84)), (3, (0, a1)), (4, (0, x20))] [] 118 V103
        have hF108 := pm_ff.tr hF94 hF106 (by decide) (by decide)
        have e109 : V103 78 0 = 79 := by rw [hF106 78 0 (by decide) (by decide)]; exact e95
        have e110 : V103 78 1 = 81 := by rw [hF106 78 1 (by decide) (by decide)]; exact e96
        have e111 : V103 84 1 = 85 := by rw [hF106 84 1 (by decide) (by decide)]; exact e97
        have e112 : V103 84 2 = 86 := by rw [hF106 84 2 (by decide) (by decide)]; exact e98
        obtain ⟨x113, ei114⟩ : ∃ y : Int, x20 + 1 = y := ⟨_, rfl⟩
        replace hb29 := hb29.trans (pf_let_eq ei114)
        refine pm_iinc (y := x113) (lv' := [(4, (0, x113)), (0, (3, 78)), (1, (3, 84)), (2, (3, 84)), (3, (0, a1))]) hC 4 dX4_compareExactly_113 (by decide) rfl ei114 rfl ?_
        refine pm_goto (tgt := 17) hC dX4_compareExactly_116 (by decide) ?_
        refine pm_lvsub [1, 2, 3, 4, 0] (lv' := [(0, (3, 78)), (1, (3, 84)), (2, (3, 84)), (3, (0, a1)), (4, (0, x113))]) rfl ?_
        exact ih33 _ (by omega) x113 V103 ⟨by omega, by omega⟩ hV105 hF108 e109 e110 (hT.trans (pf_val_inl hb29)) rfl
  refine pm_lvsub [1, 2, 3, 4, 0] (lv' := [(0, (3, 78)), (1, (3, 84)), (2, (3, 84)), (3, (0, a1)), (4, (0, 0))]) rfl ?_
  exact L30 _ 0 V12 ⟨by decide, by decide⟩ hV14 hF17 e18 e19 hT rfl
set_option maxHeartbeats 4000000 in
set_option maxRecDepth 100000 in
theorem fD_X4_compareProducts_78_84_84  : pm_K 3 yX4_compareProducts cX4_compareProducts 8 (some .int) (fun av V => av = [(3, 78), (3, 84), (3, 84)] ∧ pm_ok 0 90 V) (fun _ V r V' => ∃ y, r = some (0, y) ∧ ((-1) ≤ y ∧ y ≤ 1) ∧ pm_ok 0 90 V' ∧ pm_ff [80, 82] [(79, 1), (81, 1)] V V' ∧ F_X4_compareProductsS 84 V = (y, V')) := by
  refine pm_MT.of (by decide) ⟨Nat.le_refl _, by decide⟩ (fun av V h => by rw [h.1]; exact (by decide : pm_words [(3, 0), (3, 0), (3, 0)] ≤ 8)) ?_
  rintro X av V0 hC - hR ⟨rfl, hV0⟩
  change pm_J X 0 [(0, (3, 78)), (1, (3, 84)), (2, (3, 84))] [] 118 V0
  have hT := F_X4_compareProductsS_eq 84 V0
  refine pm_aload_n hC 1 (by decide) dX4_compareProducts_0 rfl ?_
  refine pm_callV (ci := 0) (as := []) (st := []) hC 84 fD_X0_isNever_84 lm_X4_19 li_X0_isNever (by decide) (by decide) rfl rfl rfl (by decide) rfl rfl (Nat.le_of_ble_eq_true rfl) ⟨Nat.le_refl _, Or.inl rfl⟩ dX4_compareProducts_1 ⟨rfl, hV0⟩ (fun r1 V2 hp3 => ?_)
  obtain ⟨y4, rfl, b5, rfl, hE6⟩ := hp3
  replace hT := hT.trans (pf_call_eq hE6)
  change pm_J X 4 [(0, (3, 78)), (1, (3, 84)), (2, (3, 84))] [(0, y4)] 118 V0
  refine pm_istore_n (lv' := [(3, (0, y4)), (0, (3, 78)), (1, (3, 84)), (2, (3, 84))]) hC dX4_compareProducts_4 (by decide) rfl ?_
  refine pm_aload_n hC 3 (by decide) dX4_compareProducts_5 rfl ?_
  refine pm_callV (ci := 0) (as := []) (st := []) hC 84 fD_X0_isNever_84 lm_X4_19 li_X0_isNever (by decide) (by decide) rfl rfl rfl (by decide) rfl rfl (Nat.le_of_ble_eq_true rfl) ⟨Nat.le_refl _, Or.inl rfl⟩ dX4_compareProducts_6 ⟨rfl, hV0⟩ (fun r7 V8 hp9 => ?_)
  obtain ⟨y10, rfl, b11, rfl, hE12⟩ := hp9
  replace hT := hT.trans (pf_call_eq hE12)
  change pm_J X 9 [(3, (0, y4)), (0, (3, 78)), (1, (3, 84)), (2, (3, 84))] [(0, y10)] 118 V0
  refine pm_istore (lv' := [(4, (0, y10)), (3, (0, y4)), (0, (3, 78)), (1, (3, 84)), (2, (3, 84))]) hC dX4_compareProducts_9 (by decide) rfl ?_
  refine pm_iload_n hC 1 dX4_compareProducts_11 rfl ?_
  refine pm_if_ne (tgt := 20) hC ⟨by omega, by omega⟩ dX4_compareProducts_12 (by decide) (fun c13 => ?_) (fun c13 => ?_)
  · skip
    replace hT := hT.trans (if_pos c13)
    refine pm_iload hC 0 dX4_compareProducts_20 rfl ?_
    refine pm_if_eq (tgt := 29) hC ⟨by omega, by omega⟩ dX4_compareProducts_22 (by decide) (fun c14 => ?_) (fun c14 => ?_)
    · skip
      replace hT := hT.trans (if_pos c14)
      refine pm_iconst (v := 0) hC dX4_compareProducts_29 ?_
      refine pm_iload_n hC 1 dX4_compareProducts_30 rfl ?_
      refine pm_if_eq (tgt := 38) hC ⟨by omega, by omega⟩ dX4_compareProducts_31 (by decide) (fun c15 => ?_) (fun c15 => ?_)
      · skip
        replace hT := hT.trans (if_pos c15)
        exfalso; omega
      · skip
        replace hT := hT.trans (if_neg c15)
        refine pm_iconst (v := 1) hC dX4_compareProducts_34 ?_
        refine pm_goto (tgt := 39) hC dX4_compareProducts_35 (by decide) ?_
        refine pm_isub hC dX4_compareProducts_39 ?_
        change pm_J X 40 [(4, (0, y10)), (3, (0, y4)), (0, (3, 78)), (1, (3, 84)), (2, (3, 84))] [(0, (-1))] 118 V0
        exact pm_iret hC hR pm_nar0 ⟨(-1), rfl, ⟨by omega, by omega⟩, hV0, (pm_ff.rf (cs := [80, 82]) (fs := [(79, 1), (81, 1)]) (V := V0)), hT⟩ dX4_compareProducts_40
    · skip
      replace hT := hT.trans (if_neg c14)
      refine pm_iconst (v := 1) hC dX4_compareProducts_25 ?_
      refine pm_goto (tgt := 30) hC dX4_compareProducts_26 (by decide) ?_
      refine pm_iload_n hC 1 dX4_compareProducts_30 rfl ?_
      refine pm_if_eq (tgt := 38) hC ⟨by omega, by omega⟩ dX4_compareProducts_31 (by decide) (fun c16 => ?_) (fun c16 => ?_)
      · skip
        replace hT := hT.trans (if_pos c16)
        exfalso; omega
      · skip
        replace hT := hT.trans (if_neg c16)
        refine pm_iconst (v := 1) hC dX4_compareProducts_34 ?_
        refine pm_goto (tgt := 39) hC dX4_compareProducts_35 (by decide) ?_
        refine pm_isub hC dX4_compareProducts_39 ?_
        change pm_J X 40 [(4, (0, y10)), (3, (0, y4)), (0, (3, 78)), (1, (3, 84)), (2, (3, 84))] [(0, 0)] 118 V0
        exact pm_iret hC hR pm_nar0 ⟨0, rfl, ⟨by omega, by omega⟩, hV0, (pm_ff.rf (cs := [80, 82]) (fs := [(79, 1), (81, 1)]) (V := V0)), hT⟩ dX4_compareProducts_40
  · skip
    replace hT := hT.trans (if_neg (fun q => q c13))
    refine pm_iload hC 0 dX4_compareProducts_15 rfl ?_
    refine pm_if_eq (tgt := 41) hC ⟨by omega, by omega⟩ dX4_compareProducts_17 (by decide) (fun c17 => ?_) (fun c17 => ?_)
    · skip
      replace hT := hT.trans (if_pos c17)
      refine pm_aload_n hC 3 (by decide) dX4_compareProducts_41 rfl ?_
      obtain ⟨y18, e19⟩ : ∃ y, V0 84 0 = y := ⟨_, rfl⟩
      have b20 := hV0.get 84 0 (lo := 0) (hi := 60) (by decide) (by decide) rfl
      rw [e19] at b20
      replace hT := hT.trans (pf_let_eq e19)
      refine pm_getf (v := y18) hC 84 fl_X4_25 rfl rfl (by decide) rfl e19 dX4_compareProducts_42 ?_
      refine pm_aload_n hC 4 (by decide) dX4_compareProducts_45 rfl ?_
      refine pm_getf (v := y18) hC 84 fl_X4_25 rfl rfl (by decide) rfl e19 dX4_compareProducts_46 ?_
      refine pm_mmin hC 4159 4160 1018 4161 ⟨by omega, by omega⟩ ⟨by omega, by omega⟩ (by decide) wL_X4_29 wS_mmin wI_math wC_mmin (Nat.le_of_ble_eq_true rfl) dX4_compareProducts_49 (fun y21 b22 => ?_)
      have he23 : pm_mn y18 y18 = y21 := pm_mn_of b22
      replace b22 : 0 ≤ y21 ∧ y21 ≤ 60 ∧ y21 ≤ y18 ∧ y21 ≤ y18 := ⟨by omega, by omega, b22.1, b22.2.1⟩
      replace hT := hT.trans (pf_let_eq he23)
      refine pm_istore (lv' := [(5, (0, y21)), (4, (0, y10)), (3, (0, y4)), (0, (3, 78)), (1, (3, 84)), (2, (3, 84))]) hC dX4_compareProducts_52 (by decide) rfl ?_
      refine pm_aload_n hC 4 (by decide) dX4_compareProducts_54 rfl ?_
      refine pm_aload_n hC 5 (by decide) dX4_compareProducts_55 rfl ?_
      refine pm_iload hC 0 dX4_compareProducts_56 rfl ?_
      refine pm_callS (as := [(3, 84), (3, 84), (0, y21)]) (st := []) hC (fD_X4_roughQuotient_84_84 y21 ⟨by omega, by omega⟩) lm_X4_35 ls_X4_roughQuotient (by decide) (by decide) rfl rfl (Nat.le_of_ble_eq_true rfl) ⟨Nat.le_refl _, Or.inl rfl⟩ dX4_compareProducts_58 ⟨rfl, hV0⟩ (fun r24 V25 hp26 => ?_)
      obtain ⟨y27, rfl, b28, rfl, hE29⟩ := hp26
      replace hT := hT.trans (pf_call_eq hE29)
      change pm_J X 61 [(5, (0, y21)), (4, (0, y10)), (3, (0, y4)), (0, (3, 78)), (1, (3, 84)), (2, (3, 84))] [(2, y27)] 118 V0
      refine pm_dstore (lv' := [(6, (2, y27)), (5, (0, y21)), (4, (0, y10)), (3, (0, y4)), (0, (3, 78)), (1, (3, 84)), (2, (3, 84))]) hC dX4_compareProducts_61 (by decide) rfl ?_
      refine pm_dload hC 0 dX4_compareProducts_63 rfl ?_
      refine pm_ldc2dV (v := 4607182418804521008) (z := 4607182418804521008) hC 4171 dX4_compareProducts_65 (by decide +kernel) rfl ?_
      refine pm_dcmpV hC dX4_compareProducts_68 (fun y30 e31 b32 => ?_)
      replace hT := hT.trans (pf_let_eq e31)
      have b32 := And.intro b32.1 b32.2
      refine pm_if_le (tgt := 74) hC ⟨by omega, by omega⟩ dX4_compareProducts_69 (by decide) (fun c33 => ?_) (fun c33 => ?_)
      · skip
        replace hT := hT.trans (if_pos c33)
        refine pm_dload hC 0 dX4_compareProducts_74 rfl ?_
        refine pm_ldc2dV (v := 4607182418791010209) (z := 4607182418791010209) hC 4172 dX4_compareProducts_76 (by decide +kernel) rfl ?_
        refine pm_dcmpV hC dX4_compareProducts_79 (fun y34 e35 b36 => ?_)
        replace hT := hT.trans (pf_let_eq e35)
        have b36 := And.intro b36.1 b36.2
        refine pm_if_ge (tgt := 85) hC ⟨by omega, by omega⟩ dX4_compareProducts_80 (by decide) (fun c37 => ?_) (fun c37 => ?_)
        · skip
          replace hT := hT.trans (if_pos c37)
          refine pm_aload_n hC 4 (by decide) dX4_compareProducts_85 rfl ?_
          refine pm_aload_n hC 5 (by decide) dX4_compareProducts_86 rfl ?_
          refine pm_aload_n hC 6 (by decide) dX4_compareProducts_87 rfl ?_
          refine pm_iload hC 1 dX4_compareProducts_88 rfl ?_
          refine pm_callV (ci := 4) (as := [(3, 84), (3, 84), (0, y21)]) (st := []) hC 78 (fD_X4_compareExactly_78_84_84 y21 ⟨by omega, by omega⟩) lm_X4_43 li_X4_compareExactly (by decide) (by decide) rfl rfl rfl (by decide) rfl rfl (Nat.le_of_ble_eq_true rfl) ⟨Nat.le_refl _, Or.inl rfl⟩ dX4_compareProducts_90 ⟨rfl, hV0⟩ (fun r38 V39 hp40 => ?_)
          obtain ⟨y41, rfl, b42, hV43, hF44, hE45⟩ := hp40
          replace hT := hT.trans (pf_call_eq hE45)
          change pm_J X 93 [(6, (2, y27)), (5, (0, y21)), (4, (0, y10)), (3, (0, y4)), (0, (3, 78)), (1, (3, 84)), (2, (3, 84))] [(0, y41)] 118 V39
          have hF46 := pm_ff.tr (pm_ff.rf (cs := [80, 82]) (fs := [(79, 1), (81, 1)]) (V := V0)) hF44 (by decide) (by decide)
          have e47 : V39 84 0 = y18 := by rw [hF44 84 0 (by decide) (by decide)]; exact e19
          exact pm_iret hC hR pm_nar0 ⟨y41, rfl, ⟨by omega, by omega⟩, hV43, hF46, hT⟩ dX4_compareProducts_93
        · skip
          replace hT := hT.trans (if_neg (Int.not_le.mpr c37))
          refine pm_iconst (v := (-1)) hC dX4_compareProducts_83 ?_
          exact pm_iret hC hR pm_nar0 ⟨(-1), rfl, ⟨by omega, by omega⟩, hV0, (pm_ff.rf (cs := [80, 82]) (fs := [(79, 1), (81, 1)]) (V := V0)), hT⟩ dX4_compareProducts_84
      · skip
        replace hT := hT.trans (if_neg (Int.not_le.mpr c33))
        refine pm_iconst (v := 1) hC dX4_compareProducts_72 ?_
        exact pm_iret hC hR pm_nar0 ⟨1, rfl, ⟨by omega, by omega⟩, hV0, (pm_ff.rf (cs := [80, 82]) (fs := [(79, 1), (81, 1)]) (V := V0)), hT⟩ dX4_compareProducts_73
    · skip
      replace hT := hT.trans (if_neg c17)
      refine pm_iload hC 0 dX4_compareProducts_20 rfl ?_
      refine pm_if_eq (tgt := 29) hC ⟨by omega, by omega⟩ dX4_compareProducts_22 (by decide) (fun c48 => ?_) (fun c48 => ?_)
      · skip
        replace hT := hT.trans (if_pos c48)
        exfalso; omega
      · skip
        replace hT := hT.trans (if_neg c48)
        refine pm_iconst (v := 1) hC dX4_compareProducts_25 ?_
        refine pm_goto (tgt := 30) hC dX4_compareProducts_26 (by decide) ?_
        refine pm_iload_n hC 1 dX4_compareProducts_30 rfl ?_
        refine pm_if_eq (tgt := 38) hC ⟨by omega, by omega⟩ dX4_compareProducts_31 (by decide) (fun c49 => ?_) (fun c49 => ?_)
        · skip
          replace hT := hT.trans (if_pos c49)
          refine pm_iconst (v := 0) hC dX4_compareProducts_38 ?_
          refine pm_isub hC dX4_compareProducts_39 ?_
          change pm_J X 40 [(4, (0, y10)), (3, (0, y4)), (0, (3, 78)), (1, (3, 84)), (2, (3, 84))] [(0, 1)] 118 V0
          exact pm_iret hC hR pm_nar0 ⟨1, rfl, ⟨by omega, by omega⟩, hV0, (pm_ff.rf (cs := [80, 82]) (fs := [(79, 1), (81, 1)]) (V := V0)), hT⟩ dX4_compareProducts_40
        · skip
          replace hT := hT.trans (if_neg c49)
          exfalso; omega
set_option maxHeartbeats 4000000 in
set_option maxRecDepth 100000 in
theorem fD_X4_roughQuotient_87_84 (a1 : Int) (h0 : 0 ≤ a1 ∧ a1 ≤ 60) : pm_K 2 yX4_roughQuotient cX4_roughQuotient 9 (some .double) (fun av V => av = [(3, 87), (3, 84), (0, a1)] ∧ pm_ok 0 90 V) (fun _ V r V' => ∃ y, r = some (2, y) ∧ True ∧ V = V' ∧ F_X4_roughQuotient 87 84 a1 V = (y, V)) := by
  refine pm_MT.of (by decide) ⟨Nat.le_refl _, by decide⟩ (fun av V h => by rw [h.1]; exact (by decide : pm_words [(3, 0), (3, 0), (0, 0)] ≤ 9)) ?_
  rintro X av V0 hC - hR ⟨rfl, hV0⟩
  change pm_J X 0 [(0, (3, 87)), (1, (3, 84)), (2, (0, a1))] [] 118 V0
  have hT := F_X4_roughQuotient_eq 87 84 a1 V0
  refine pm_dconst1V hC dX4_roughQuotient_0 ?_
  refine pm_dstore_n (lv' := [(3, (2, 4607182418800017408)), (0, (3, 87)), (1, (3, 84)), (2, (0, a1))]) hC dX4_roughQuotient_1 (by decide) rfl ?_
  refine pm_iconst (v := 0) hC dX4_roughQuotient_2 ?_
  refine pm_istore (lv' := [(5, (0, 0)), (3, (2, 4607182418800017408)), (0, (3, 87)), (1, (3, 84)), (2, (0, a1))]) hC dX4_roughQuotient_3 (by decide) rfl ?_
  refine pm_iconst (v := 0) hC dX4_roughQuotient_5 ?_
  refine pm_istore (lv' := [(6, (0, 0)), (5, (0, 0)), (3, (2, 4607182418800017408)), (0, (3, 87)), (1, (3, 84)), (2, (0, a1))]) hC dX4_roughQuotient_6 (by decide) rfl ?_
  refine pm_iconst (v := 0) hC dX4_roughQuotient_8 ?_
  refine pm_istore (lv' := [(7, (0, 0)), (6, (0, 0)), (5, (0, 0)), (3, (2, 4607182418800017408)), (0, (3, 87)), (1, (3, 84)), (2, (0, a1))]) hC dX4_roughQuotient_9 (by decide) rfl ?_
  obtain ⟨B12, hB13, hT⟩ := pf_loop hT
  have L15 : ∀ (N17 : Nat) (x1 : Int) (x3 : Int) (x5 : Int) (x7 : Int), fp_gd x1 → (0 ≤ x3 ∧ x3 ≤ 120) → (0 ≤ x5 ∧ x5 ≤ 120) → (0 ≤ x7 ∧ x7 ≤ 240) → (x3 + x5 = x7) → (x3 ≤ 2 * a1) → (x5 ≤ 2 * a1) → F_X4_roughQuotient 87 84 a1 V0 = pf_val ((0 : Int), V0) B12 (x1, x3, x5, x7) → (Int.toNat (240 - x7)) = N17 → pm_J X 11 [(0, (3, 87)), (1, (3, 84)), (2, (0, a1)), (3, (2, x1)), (5, (0, x3)), (6, (0, x5)), (7, (0, x7))] [] 118 V0 := by
    intro N17
    induction N17 using Nat.strongRecOn with
    | _ N17 ih18 =>
    intro x1 x3 x5 x7 gd2 b4 b6 b8 b9 b10 b11 hT hm16
    have hb14 := congrFun hB13 (x1, x3, x5, x7)
    refine pm_iload hC 6 dX4_roughQuotient_11 rfl ?_
    refine pm_iconst (v := 4) hC dX4_roughQuotient_13 ?_
    refine pm_iload_n hC 2 dX4_roughQuotient_14 rfl ?_
    refine pm_imul hC dX4_roughQuotient_15 ?_
    refine pm_icmp_ge (tgt := 90) hC ⟨by omega, by omega⟩ ⟨by omega, by omega⟩ dX4_roughQuotient_16 (by decide) (fun c19 => ?_) (fun c19 => ?_)
    · skip
      replace hb14 := hb14.trans (if_pos c19)
      refine pm_dload_n hC 3 dX4_roughQuotient_90 rfl ?_
      have hT := hT.trans (pf_val_inr hb14)
      exact pm_dret hC hR ⟨x1, rfl, trivial, rfl, hT⟩ dX4_roughQuotient_91
    · skip
      replace hb14 := hb14.trans (if_neg (Int.not_le.mpr c19))
      refine pm_iload hC 5 dX4_roughQuotient_19 rfl ?_
      refine pm_iconst (v := 2) hC dX4_roughQuotient_21 ?_
      refine pm_iload_n hC 2 dX4_roughQuotient_22 rfl ?_
      refine pm_imul hC dX4_roughQuotient_23 ?_
      refine pm_icmp_ge (tgt := 41) hC ⟨by omega, by omega⟩ ⟨by omega, by omega⟩ dX4_roughQuotient_24 (by decide) (fun c20 => ?_) (fun c20 => ?_)
      · skip
        replace hb14 := hb14.trans (if_pos c20)
        refine pm_iconst (v := 1) hC dX4_roughQuotient_41 ?_
        refine pm_goto (tgt := 46) hC dX4_roughQuotient_42 (by decide) ?_
        refine pm_istore (lv' := [(8, (0, 1)), (0, (3, 87)), (1, (3, 84)), (2, (0, a1)), (3, (2, x1)), (5, (0, x3)), (6, (0, x5)), (7, (0, x7))]) hC dX4_roughQuotient_46 (by decide) rfl ?_
        refine pm_iload hC 0 dX4_roughQuotient_48 rfl ?_
        refine pm_if_eq (tgt := 70) hC ⟨by decide, by decide⟩ dX4_roughQuotient_50 (by decide) (fun c21 => ?_) (fun c21 => ?_)
        · skip
          exfalso; omega
        · skip
          refine pm_dload_n hC 4 dX4_roughQuotient_53 rfl ?_
          refine pm_aload_n hC 1 (by decide) dX4_roughQuotient_54 rfl ?_
          refine pm_aload_n hC 2 (by decide) dX4_roughQuotient_55 rfl ?_
          refine pm_iload hC 5 dX4_roughQuotient_56 rfl ?_
          refine pm_callS (as := [(3, 87), (3, 84), (0, x3)]) (st := [(2, x1)]) hC (fD_X4_factorOf_87_84 x3 ⟨by omega, by omega⟩) lm_X4_47 ls_X4_factorOf (by decide) (by decide) rfl rfl (Nat.le_of_ble_eq_true rfl) ⟨Nat.le_refl _, Or.inl rfl⟩ dX4_roughQuotient_58 ⟨rfl, hV0⟩ (fun r22 V23 hp24 => ?_)
          obtain ⟨y25, rfl, b26, rfl, hE27⟩ := hp24
          replace hb14 := hb14.trans (pf_call_eq hE27)
          change pm_J X 61 [(8, (0, 1)), (0, (3, 87)), (1, (3, 84)), (2, (0, a1)), (3, (2, x1)), (5, (0, x3)), (6, (0, x5)), (7, (0, x7))] [(1, y25), (2, x1)] 118 V0
          refine pm_l2dV hC dX4_roughQuotient_61 ?_
          obtain ⟨y28, e29⟩ : ∃ z, fp_m x1 (fp_l y25) = z := ⟨_, rfl⟩
          have gd30 : fp_gd y28 := by rw [← e29]; exact fp_m_gd gd2 (fp_l_gp (x := y25) ⟨by omega, by omega⟩)
          replace hb14 := hb14.trans (pf_let_eq e29)
          refine pm_dmulV hC gd2 (fp_l_gp (x := y25) ⟨by omega, by omega⟩) e29 dX4_roughQuotient_62 ?_
          refine pm_dstore_n (lv' := [(3, (2, y28)), (8, (0, 1)), (0, (3, 87)), (1, (3, 84)), (2, (0, a1)), (5, (0, x3)), (6, (0, x5)), (7, (0, x7))]) hC dX4_roughQuotient_63 (by decide) rfl ?_
          obtain ⟨x31, ei32⟩ : ∃ y : Int, x3 + 1 = y := ⟨_, rfl⟩
          replace hb14 := hb14.trans (pf_let_eq ei32)
          refine pm_iinc (y := x31) (lv' := [(5, (0, x31)), (3, (2, y28)), (8, (0, 1)), (0, (3, 87)), (1, (3, 84)), (2, (0, a1)), (6, (0, x5)), (7, (0, x7))]) hC 5 dX4_roughQuotient_64 (by decide) rfl ei32 rfl ?_
          refine pm_goto (tgt := 84) hC dX4_roughQuotient_67 (by decide) ?_
          obtain ⟨x33, ei34⟩ : ∃ y : Int, x7 + 1 = y := ⟨_, rfl⟩
          replace hb14 := hb14.trans (pf_let_eq ei34)
          refine pm_iinc (y := x33) (lv' := [(7, (0, x33)), (5, (0, x31)), (3, (2, y28)), (8, (0, 1)), (0, (3, 87)), (1, (3, 84)), (2, (0, a1)), (6, (0, x5))]) hC 7 dX4_roughQuotient_84 (by decide) rfl ei34 rfl ?_
          refine pm_goto (tgt := 11) hC dX4_roughQuotient_87 (by decide) ?_
          refine pm_lvsub [4, 5, 6, 2, 1, 7, 0] (lv' := [(0, (3, 87)), (1, (3, 84)), (2, (0, a1)), (3, (2, y28)), (5, (0, x31)), (6, (0, x5)), (7, (0, x33))]) rfl ?_
          exact ih18 _ (by omega) y28 x31 x5 x33 gd30 ⟨by omega, by omega⟩ ⟨by omega, by omega⟩ ⟨by omega, by omega⟩ (by omega) (by omega) (by omega) (hT.trans (pf_val_inl hb14)) rfl
      · skip
        replace hb14 := hb14.trans (if_neg (Int.not_le.mpr c20))
        refine pm_iload hC 4 dX4_roughQuotient_27 rfl ?_
        refine pm_iconst (v := 2) hC dX4_roughQuotient_29 ?_
        refine pm_iload_n hC 2 dX4_roughQuotient_30 rfl ?_
        refine pm_imul hC dX4_roughQuotient_31 ?_
        refine pm_icmp_ge (tgt := 45) hC ⟨by omega, by omega⟩ ⟨by omega, by omega⟩ dX4_roughQuotient_32 (by decide) (fun c35 => ?_) (fun c35 => ?_)
        · skip
          replace hb14 := hb14.trans (if_pos c35)
          refine pm_iconst (v := 0) hC dX4_roughQuotient_45 ?_
          refine pm_istore (lv' := [(8, (0, 0)), (0, (3, 87)), (1, (3, 84)), (2, (0, a1)), (3, (2, x1)), (5, (0, x3)), (6, (0, x5)), (7, (0, x7))]) hC dX4_roughQuotient_46 (by decide) rfl ?_
          refine pm_iload hC 0 dX4_roughQuotient_48 rfl ?_
          refine pm_if_eq (tgt := 70) hC ⟨by decide, by decide⟩ dX4_roughQuotient_50 (by decide) (fun c36 => ?_) (fun c36 => ?_)
          · skip
            refine pm_dload_n hC 4 dX4_roughQuotient_70 rfl ?_
            refine pm_aload_n hC 2 (by decide) dX4_roughQuotient_71 rfl ?_
            refine pm_aload_n hC 1 (by decide) dX4_roughQuotient_72 rfl ?_
            refine pm_iload hC 6 dX4_roughQuotient_73 rfl ?_
            refine pm_callS (as := [(3, 84), (3, 87), (0, x5)]) (st := [(2, x1)]) hC (fD_X4_factorOf_84_87 x5 ⟨by omega, by omega⟩) lm_X4_47 ls_X4_factorOf (by decide) (by decide) rfl rfl (Nat.le_of_ble_eq_true rfl) ⟨Nat.le_refl _, Or.inl rfl⟩ dX4_roughQuotient_75 ⟨rfl, hV0⟩ (fun r37 V38 hp39 => ?_)
            obtain ⟨y40, rfl, b41, rfl, hE42⟩ := hp39
            replace hb14 := hb14.trans (pf_call_eq hE42)
            change pm_J X 78 [(8, (0, 0)), (0, (3, 87)), (1, (3, 84)), (2, (0, a1)), (3, (2, x1)), (5, (0, x3)), (6, (0, x5)), (7, (0, x7))] [(1, y40), (2, x1)] 118 V0
            refine pm_l2dV hC dX4_roughQuotient_78 ?_
            obtain ⟨y43, e44⟩ : ∃ z, fp_d x1 (fp_l y40) = z := ⟨_, rfl⟩
            have gd45 : fp_gd y43 := by rw [← e44]; exact fp_d_gd gd2 (fp_l_gp (x := y40) ⟨by omega, by omega⟩)
            replace hb14 := hb14.trans (pf_let_eq e44)
            refine pm_ddivV hC gd2 (fp_l_gp (x := y40) ⟨by omega, by omega⟩) e44 dX4_roughQuotient_79 ?_
            refine pm_dstore_n (lv' := [(3, (2, y43)), (8, (0, 0)), (0, (3, 87)), (1, (3, 84)), (2, (0, a1)), (5, (0, x3)), (6, (0, x5)), (7, (0, x7))]) hC dX4_roughQuotient_80 (by decide) rfl ?_
            obtain ⟨x46, ei47⟩ : ∃ y : Int, x5 + 1 = y := ⟨_, rfl⟩
            replace hb14 := hb14.trans (pf_let_eq ei47)
            refine pm_iinc (y := x46) (lv' := [(6, (0, x46)), (3, (2, y43)), (8, (0, 0)), (0, (3, 87)), (1, (3, 84)), (2, (0, a1)), (5, (0, x3)), (7, (0, x7))]) hC 6 dX4_roughQuotient_81 (by decide) rfl ei47 rfl ?_
            obtain ⟨x48, ei49⟩ : ∃ y : Int, x7 + 1 = y := ⟨_, rfl⟩
            replace hb14 := hb14.trans (pf_let_eq ei49)
            refine pm_iinc (y := x48) (lv' := [(7, (0, x48)), (6, (0, x46)), (3, (2, y43)), (8, (0, 0)), (0, (3, 87)), (1, (3, 84)), (2, (0, a1)), (5, (0, x3))]) hC 7 dX4_roughQuotient_84 (by decide) rfl ei49 rfl ?_
            refine pm_goto (tgt := 11) hC dX4_roughQuotient_87 (by decide) ?_
            refine pm_lvsub [4, 5, 6, 2, 7, 1, 0] (lv' := [(0, (3, 87)), (1, (3, 84)), (2, (0, a1)), (3, (2, y43)), (5, (0, x3)), (6, (0, x46)), (7, (0, x48))]) rfl ?_
            exact ih18 _ (by omega) y43 x3 x46 x48 gd45 ⟨by omega, by omega⟩ ⟨by omega, by omega⟩ ⟨by omega, by omega⟩ (by omega) (by omega) (by omega) (hT.trans (pf_val_inl hb14)) rfl
          · skip
            exfalso; omega
        · skip
          replace hb14 := hb14.trans (if_neg (Int.not_le.mpr c35))
          refine pm_dload_n hC 3 dX4_roughQuotient_35 rfl ?_
          refine pm_dconst1V hC dX4_roughQuotient_36 ?_
          refine pm_dcmpV hC dX4_roughQuotient_37 (fun y50 e51 b52 => ?_)
          replace hb14 := hb14.trans (pf_let_eq e51)
          have b52 := And.intro b52.1 b52.2
          refine pm_if_gt (tgt := 45) hC ⟨by omega, by omega⟩ dX4_roughQuotient_38 (by decide) (fun c53 => ?_) (fun c53 => ?_)
          · skip
            replace hb14 := hb14.trans (if_pos c53)
            refine pm_iconst (v := 0) hC dX4_roughQuotient_45 ?_
            refine pm_istore (lv' := [(8, (0, 0)), (0, (3, 87)), (1, (3, 84)), (2, (0, a1)), (3, (2, x1)), (5, (0, x3)), (6, (0, x5)), (7, (0, x7))]) hC dX4_roughQuotient_46 (by decide) rfl ?_
            refine pm_iload hC 0 dX4_roughQuotient_48 rfl ?_
            refine pm_if_eq (tgt := 70) hC ⟨by decide, by decide⟩ dX4_roughQuotient_50 (by decide) (fun c54 => ?_) (fun c54 => ?_)
            · skip
              refine pm_dload_n hC 4 dX4_roughQuotient_70 rfl ?_
              refine pm_aload_n hC 2 (by decide) dX4_roughQuotient_71 rfl ?_
              refine pm_aload_n hC 1 (by decide) dX4_roughQuotient_72 rfl ?_
              refine pm_iload hC 6 dX4_roughQuotient_73 rfl ?_
              refine pm_callS (as := [(3, 84), (3, 87), (0, x5)]) (st := [(2, x1)]) hC (fD_X4_factorOf_84_87 x5 ⟨by omega, by omega⟩) lm_X4_47 ls_X4_factorOf (by decide) (by decide) rfl rfl (Nat.le_of_ble_eq_true rfl) ⟨Nat.le_refl _, Or.inl rfl⟩ dX4_roughQuotient_75 ⟨rfl, hV0⟩ (fun r55 V56 hp57 => ?_)
              obtain ⟨y58, rfl, b59, rfl, hE60⟩ := hp57
              replace hb14 := hb14.trans (pf_call_eq hE60)
              change pm_J X 78 [(8, (0, 0)), (0, (3, 87)), (1, (3, 84)), (2, (0, a1)), (3, (2, x1)), (5, (0, x3)), (6, (0, x5)), (7, (0, x7))] [(1, y58), (2, x1)] 118 V0
              refine pm_l2dV hC dX4_roughQuotient_78 ?_
              obtain ⟨y61, e62⟩ : ∃ z, fp_d x1 (fp_l y58) = z := ⟨_, rfl⟩
              have gd63 : fp_gd y61 := by rw [← e62]; exact fp_d_gd gd2 (fp_l_gp (x := y58) ⟨by omega, by omega⟩)
              replace hb14 := hb14.trans (pf_let_eq e62)
              refine pm_ddivV hC gd2 (fp_l_gp (x := y58) ⟨by omega, by omega⟩) e62 dX4_roughQuotient_79 ?_
              refine pm_dstore_n (lv' := [(3, (2, y61)), (8, (0, 0)), (0, (3, 87)), (1, (3, 84)), (2, (0, a1)), (5, (0, x3)), (6, (0, x5)), (7, (0, x7))]) hC dX4_roughQuotient_80 (by decide) rfl ?_
              obtain ⟨x64, ei65⟩ : ∃ y : Int, x5 + 1 = y := ⟨_, rfl⟩
              replace hb14 := hb14.trans (pf_let_eq ei65)
              refine pm_iinc (y := x64) (lv' := [(6, (0, x64)), (3, (2, y61)), (8, (0, 0)), (0, (3, 87)), (1, (3, 84)), (2, (0, a1)), (5, (0, x3)), (7, (0, x7))]) hC 6 dX4_roughQuotient_81 (by decide) rfl ei65 rfl ?_
              obtain ⟨x66, ei67⟩ : ∃ y : Int, x7 + 1 = y := ⟨_, rfl⟩
              replace hb14 := hb14.trans (pf_let_eq ei67)
              refine pm_iinc (y := x66) (lv' := [(7, (0, x66)), (6, (0, x64)), (3, (2, y61)), (8, (0, 0)), (0, (3, 87)), (1, (3, 84)), (2, (0, a1)), (5, (0, x3))]) hC 7 dX4_roughQuotient_84 (by decide) rfl ei67 rfl ?_
              refine pm_goto (tgt := 11) hC dX4_roughQuotient_87 (by decide) ?_
              refine pm_lvsub [4, 5, 6, 2, 7, 1, 0] (lv' := [(0, (3, 87)), (1, (3, 84)), (2, (0, a1)), (3, (2, y61)), (5, (0, x3)), (6, (0, x64)), (7, (0, x66))]) rfl ?_
              exact ih18 _ (by omega) y61 x3 x64 x66 gd63 ⟨by omega, by omega⟩ ⟨by omega, by omega⟩ ⟨by omega, by omega⟩ (by omega) (by omega) (by omega) (hT.trans (pf_val_inl hb14)) rfl
            · skip
              exfalso; omega
          · skip
            replace hb14 := hb14.trans (if_neg (Int.not_lt.mpr c53))
            refine pm_iconst (v := 1) hC dX4_roughQuotient_41 ?_
            refine pm_goto (tgt := 46) hC dX4_roughQuotient_42 (by decide) ?_
            refine pm_istore (lv' := [(8, (0, 1)), (0, (3, 87)), (1, (3, 84)), (2, (0, a1)), (3, (2, x1)), (5, (0, x3)), (6, (0, x5)), (7, (0, x7))]) hC dX4_roughQuotient_46 (by decide) rfl ?_
            refine pm_iload hC 0 dX4_roughQuotient_48 rfl ?_
            refine pm_if_eq (tgt := 70) hC ⟨by decide, by decide⟩ dX4_roughQuotient_50 (by decide) (fun c68 => ?_) (fun c68 => ?_)
            · skip
              exfalso; omega
            · skip
              refine pm_dload_n hC 4 dX4_roughQuotient_53 rfl ?_
              refine pm_aload_n hC 1 (by decide) dX4_roughQuotient_54 rfl ?_
              refine pm_aload_n hC 2 (by decide) dX4_roughQuotient_55 rfl ?_
              refine pm_iload hC 5 dX4_roughQuotient_56 rfl ?_
              refine pm_callS (as := [(3, 87), (3, 84), (0, x3)]) (st := [(2, x1)]) hC (fD_X4_factorOf_87_84 x3 ⟨by omega, by omega⟩) lm_X4_47 ls_X4_factorOf (by decide) (by decide) rfl rfl (Nat.le_of_ble_eq_true rfl) ⟨Nat.le_refl _, Or.inl rfl⟩ dX4_roughQuotient_58 ⟨rfl, hV0⟩ (fun r69 V70 hp71 => ?_)
              obtain ⟨y72, rfl, b73, rfl, hE74⟩ := hp71
              replace hb14 := hb14.trans (pf_call_eq hE74)
              change pm_J X 61 [(8, (0, 1)), (0, (3, 87)), (1, (3, 84)), (2, (0, a1)), (3, (2, x1)), (5, (0, x3)), (6, (0, x5)), (7, (0, x7))] [(1, y72), (2, x1)] 118 V0
              refine pm_l2dV hC dX4_roughQuotient_61 ?_
              obtain ⟨y75, e76⟩ : ∃ z, fp_m x1 (fp_l y72) = z := ⟨_, rfl⟩
              have gd77 : fp_gd y75 := by rw [← e76]; exact fp_m_gd gd2 (fp_l_gp (x := y72) ⟨by omega, by omega⟩)
              replace hb14 := hb14.trans (pf_let_eq e76)
              refine pm_dmulV hC gd2 (fp_l_gp (x := y72) ⟨by omega, by omega⟩) e76 dX4_roughQuotient_62 ?_
              refine pm_dstore_n (lv' := [(3, (2, y75)), (8, (0, 1)), (0, (3, 87)), (1, (3, 84)), (2, (0, a1)), (5, (0, x3)), (6, (0, x5)), (7, (0, x7))]) hC dX4_roughQuotient_63 (by decide) rfl ?_
              obtain ⟨x78, ei79⟩ : ∃ y : Int, x3 + 1 = y := ⟨_, rfl⟩
              replace hb14 := hb14.trans (pf_let_eq ei79)
              refine pm_iinc (y := x78) (lv' := [(5, (0, x78)), (3, (2, y75)), (8, (0, 1)), (0, (3, 87)), (1, (3, 84)), (2, (0, a1)), (6, (0, x5)), (7, (0, x7))]) hC 5 dX4_roughQuotient_64 (by decide) rfl ei79 rfl ?_
              refine pm_goto (tgt := 84) hC dX4_roughQuotient_67 (by decide) ?_
              obtain ⟨x80, ei81⟩ : ∃ y : Int, x7 + 1 = y := ⟨_, rfl⟩
              replace hb14 := hb14.trans (pf_let_eq ei81)
              refine pm_iinc (y := x80) (lv' := [(7, (0, x80)), (5, (0, x78)), (3, (2, y75)), (8, (0, 1)), (0, (3, 87)), (1, (3, 84)), (2, (0, a1)), (6, (0, x5))]) hC 7 dX4_roughQuotient_84 (by decide) rfl ei81 rfl ?_
              refine pm_goto (tgt := 11) hC dX4_roughQuotient_87 (by decide) ?_
              refine pm_lvsub [4, 5, 6, 2, 1, 7, 0] (lv' := [(0, (3, 87)), (1, (3, 84)), (2, (0, a1)), (3, (2, y75)), (5, (0, x78)), (6, (0, x5)), (7, (0, x80))]) rfl ?_
              exact ih18 _ (by omega) y75 x78 x5 x80 gd77 ⟨by omega, by omega⟩ ⟨by omega, by omega⟩ ⟨by omega, by omega⟩ (by omega) (by omega) (by omega) (hT.trans (pf_val_inl hb14)) rfl
  refine pm_lvsub [4, 5, 6, 3, 2, 1, 0] (lv' := [(0, (3, 87)), (1, (3, 84)), (2, (0, a1)), (3, (2, 4607182418800017408)), (5, (0, 0)), (6, (0, 0)), (7, (0, 0))]) rfl ?_
  exact L15 _ 4607182418800017408 0 0 0 fp_gd1 ⟨by decide, by decide⟩ ⟨by decide, by decide⟩ ⟨by decide, by decide⟩ (by omega) (by omega) (by omega) hT rfl
set_option maxHeartbeats 4000000 in
set_option maxRecDepth 100000 in
theorem fD_X4_compareExactly_78_87_84 (a1 : Int) (h0 : 0 ≤ a1 ∧ a1 ≤ 60) : pm_K 2 yX4_compareExactly cX4_compareExactly 5 (some .int) (fun av V => av = [(3, 78), (3, 87), (3, 84), (0, a1)] ∧ pm_ok 0 90 V) (fun _ V r V' => ∃ y, r = some (0, y) ∧ ((-1) ≤ y ∧ y ≤ 1) ∧ pm_ok 0 90 V' ∧ pm_ff [80, 82] [(79, 1), (81, 1)] V V' ∧ F_X4_compareExactly 87 84 a1 V = (y, V')) := by
  refine pm_MT.of (by decide) ⟨Nat.le_refl _, by decide⟩ (fun av V h => by rw [h.1]; exact (by decide : pm_words [(3, 0), (3, 0), (3, 0), (0, 0)] ≤ 5)) ?_
  rintro X av V0 hC - hR ⟨rfl, hV0⟩
  change pm_J X 0 [(0, (3, 78)), (1, (3, 87)), (2, (3, 84)), (3, (0, a1))] [] 118 V0
  have hT := F_X4_compareExactly_eq 87 84 a1 V0
  refine pm_aload_n hC 0 (by decide) dX4_compareExactly_0 rfl ?_
  have e1 : V0 78 0 = 79 := hV0.one 78 0 (by decide) (by decide) rfl
  refine pm_getf (v := 79) hC 78 fl_X4_10 rfl rfl (by decide) rfl e1 dX4_compareExactly_1 ?_
  refine pm_callV (ci := 1) (as := []) (st := []) hC 79 fD_X1_begin_79 lm_X4_62 li_X1_begin (by decide) (by decide) rfl rfl rfl (by decide) rfl rfl (Nat.le_of_ble_eq_true rfl) ⟨Nat.le_refl _, Or.inl rfl⟩ dX4_compareExactly_4 ⟨rfl, hV0⟩ (fun r2 V3 hp4 => ?_)
  obtain ⟨rfl, hV5, hF6, hE7⟩ := hp4
  replace hT := hT.trans (pf_call_eq hE7)
  change pm_J X 7 [(0, (3, 78)), (1, (3, 87)), (2, (3, 84)), (3, (0, a1))] [] 118 V3
  have hF8 := pm_ff.tr (pm_ff.rf (cs := [80, 82]) (fs := [(79, 1), (81, 1)]) (V := V0)) hF6 (by decide) (by decide)
  have e9 : V3 78 0 = 79 := by rw [hF6 78 0 (by decide) (by decide)]; exact e1
  refine pm_aload_n hC 0 (by decide) dX4_compareExactly_7 rfl ?_
  have e10 : V3 78 1 = 81 := hV5.one 78 1 (by decide) (by decide) rfl
  refine pm_getf (v := 81) hC 78 fl_X4_16 rfl rfl (by decide) rfl e10 dX4_compareExactly_8 ?_
  refine pm_callV (ci := 1) (as := []) (st := []) hC 81 fD_X1_begin_81 lm_X4_62 li_X1_begin (by decide) (by decide) rfl rfl rfl (by decide) rfl rfl (Nat.le_of_ble_eq_true rfl) ⟨Nat.le_refl _, Or.inl rfl⟩ dX4_compareExactly_11 ⟨rfl, hV5⟩ (fun r11 V12 hp13 => ?_)
  obtain ⟨rfl, hV14, hF15, hE16⟩ := hp13
  replace hT := hT.trans (pf_call_eq hE16)
  change pm_J X 14 [(0, (3, 78)), (1, (3, 87)), (2, (3, 84)), (3, (0, a1))] [] 118 V12
  have hF17 := pm_ff.tr hF8 hF15 (by decide) (by decide)
  have e18 : V12 78 0 = 79 := by rw [hF15 78 0 (by decide) (by decide)]; exact e9
  have e19 : V12 78 1 = 81 := by rw [hF15 78 1 (by decide) (by decide)]; exact e10
  refine pm_iconst (v := 0) hC dX4_compareExactly_14 ?_
  refine pm_istore (lv' := [(4, (0, 0)), (0, (3, 78)), (1, (3, 87)), (2, (3, 84)), (3, (0, a1))]) hC dX4_compareExactly_15 (by decide) rfl ?_
  obtain ⟨B27, hB28, hT⟩ := pf_loop hT
  have L30 : ∀ (N32 : Nat) (x20 : Int) (V22 : pm_M), (0 ≤ x20 ∧ x20 ≤ 60) → pm_ok 0 90 V22 → pm_ff [80, 82] [(79, 1), (81, 1)] V0 V22 → V22 78 0 = 79 → V22 78 1 = 81 → F_X4_compareExactly 87 84 a1 V0 = pf_val ((0 : Int), V0) B27 (x20, V22) → (Int.toNat (60 - x20)) = N32 → pm_J X 17 [(0, (3, 78)), (1, (3, 87)), (2, (3, 84)), (3, (0, a1)), (4, (0, x20))] [] 118 V22 := by
    intro N32
    induction N32 using Nat.strongRecOn with
    | _ N32 ih33 =>
    intro x20 V22 b21 hV23 hF24 e25 e26 hT hm31
    have hb29 := congrFun hB28 (x20, V22)
    refine pm_iload hC 4 dX4_compareExactly_17 rfl ?_
    refine pm_iload_n hC 3 dX4_compareExactly_19 rfl ?_
    refine pm_icmp_ge (tgt := 119) hC ⟨by omega, by omega⟩ ⟨by omega, by omega⟩ dX4_compareExactly_20 (by decide) (fun c34 => ?_) (fun c34 => ?_)
    · skip
      replace hb29 := hb29.trans (if_pos c34)
      refine pm_aload_n hC 0 (by decide) dX4_compareExactly_119 rfl ?_
      refine pm_getf (v := 79) hC 78 fl_X4_10 rfl rfl (by decide) rfl e25 dX4_compareExactly_120 ?_
      refine pm_aload_n hC 0 (by decide) dX4_compareExactly_123 rfl ?_
      refine pm_getf (v := 81) hC 78 fl_X4_16 rfl rfl (by decide) rfl e26 dX4_compareExactly_124 ?_
      refine pm_callV (ci := 1) (as := [(3, 81)]) (st := []) hC 79 fD_X1_compareWith_79_81 lm_X4_69 li_X1_compareWith (by decide) (by decide) rfl rfl rfl (by decide) rfl rfl (Nat.le_of_ble_eq_true rfl) ⟨Nat.le_refl _, Or.inl rfl⟩ dX4_compareExactly_127 ⟨rfl, hV23⟩ (fun r35 V36 hp37 => ?_)
      obtain ⟨y38, rfl, b39, rfl, hE40⟩ := hp37
      replace hb29 := hb29.trans (pf_call_eq hE40)
      change pm_J X 130 [(0, (3, 78)), (1, (3, 87)), (2, (3, 84)), (3, (0, a1)), (4, (0, x20))] [(0, y38)] 118 V22
      have hT := hT.trans (pf_val_inr hb29)
      exact pm_iret hC hR pm_nar0 ⟨y38, rfl, ⟨by omega, by omega⟩, hV23, hF24, hT⟩ dX4_compareExactly_130
    · skip
      replace hb29 := hb29.trans (if_neg (Int.not_le.mpr c34))
      refine pm_aload_n hC 1 (by decide) dX4_compareExactly_23 rfl ?_
      have e41 : V22 87 1 = 88 := hV23.one 87 1 (by decide) (by decide) rfl
      refine pm_getf (v := 88) hC 87 fl_X4_51 rfl rfl (by decide) rfl e41 dX4_compareExactly_24 ?_
      refine pm_iload hC 4 dX4_compareExactly_27 rfl ?_
      obtain ⟨y42, e43⟩ : ∃ y, V22 88 (x20 : Int).toNat = y := ⟨_, rfl⟩
      replace hb29 := hb29.trans (pf_let_eq e43)
      have b44 := hV23.get 88 (x20 : Int).toNat (lo := (-9223372036854775808)) (hi := 9223372036854775807) (by decide) (show _ < 60 by omega) rfl
      rw [e43] at b44
      refine pm_laload (len := 60) (v := y42) hC 88 rfl rfl (by decide) ⟨by omega, by omega⟩ (by decide) e43 dX4_compareExactly_29 ?_
      refine pm_aload_n hC 2 (by decide) dX4_compareExactly_30 rfl ?_
      have e45 : V22 84 2 = 86 := hV23.one 84 2 (by decide) (by decide) rfl
      refine pm_getf (v := 86) hC 84 fl_X4_55 rfl rfl (by decide) rfl e45 dX4_compareExactly_31 ?_
      refine pm_iload hC 4 dX4_compareExactly_34 rfl ?_
      obtain ⟨y46, e47⟩ : ∃ y, V22 86 (x20 : Int).toNat = y := ⟨_, rfl⟩
      replace hb29 := hb29.trans (pf_let_eq e47)
      have b48 := hV23.get 86 (x20 : Int).toNat (lo := (-9223372036854775808)) (hi := 9223372036854775807) (by decide) (show _ < 60 by omega) rfl
      rw [e47] at b48
      refine pm_laload (len := 60) (v := y46) hC 86 rfl rfl (by decide) ⟨by omega, by omega⟩ (by decide) e47 dX4_compareExactly_36 ?_
      refine pm_lmul hC dX4_compareExactly_37 ?_
      refine pm_wrL hC (fun y49 hw51 b50 => ?_)
      replace hb29 := hb29.trans (pf_let_eq hw51)
      have b50 := And.intro b50.1 b50.2
      refine pm_aload_n hC 2 (by decide) dX4_compareExactly_38 rfl ?_
      have e52 : V22 84 1 = 85 := hV23.one 84 1 (by decide) (by decide) rfl
      refine pm_getf (v := 85) hC 84 fl_X4_51 rfl rfl (by decide) rfl e52 dX4_compareExactly_39 ?_
      refine pm_iload hC 4 dX4_compareExactly_42 rfl ?_
      obtain ⟨y53, e54⟩ : ∃ y, V22 85 (x20 : Int).toNat = y := ⟨_, rfl⟩
      replace hb29 := hb29.trans (pf_let_eq e54)
      have b55 := hV23.get 85 (x20 : Int).toNat (lo := (-9223372036854775808)) (hi := 9223372036854775807) (by decide) (show _ < 60 by omega) rfl
      rw [e54] at b55
      refine pm_laload (len := 60) (v := y53) hC 85 rfl rfl (by decide) ⟨by omega, by omega⟩ (by decide) e54 dX4_compareExactly_44 ?_
      refine pm_aload_n hC 1 (by decide) dX4_compareExactly_45 rfl ?_
      have e56 : V22 87 2 = 89 := hV23.one 87 2 (by decide) (by decide) rfl
      refine pm_getf (v := 89) hC 87 fl_X4_55 rfl rfl (by decide) rfl e56 dX4_compareExactly_46 ?_
      refine pm_iload hC 4 dX4_compareExactly_49 rfl ?_
      obtain ⟨y57, e58⟩ : ∃ y, V22 89 (x20 : Int).toNat = y := ⟨_, rfl⟩
      replace hb29 := hb29.trans (pf_let_eq e58)
      have b59 := hV23.get 89 (x20 : Int).toNat (lo := (-9223372036854775808)) (hi := 9223372036854775807) (by decide) (show _ < 60 by omega) rfl
      rw [e58] at b59
      refine pm_laload (len := 60) (v := y57) hC 89 rfl rfl (by decide) ⟨by omega, by omega⟩ (by decide) e58 dX4_compareExactly_51 ?_
      refine pm_lmul hC dX4_compareExactly_52 ?_
      refine pm_wrL hC (fun y60 hw62 b61 => ?_)
      replace hb29 := hb29.trans (pf_let_eq hw62)
      have b61 := And.intro b61.1 b61.2
      refine pm_lcmp hC ⟨by omega, by omega⟩ ⟨by omega, by omega⟩ dX4_compareExactly_53 (fun y63 b64 => ?_)
      replace hb29 := hb29.trans (pf_let_eq (pm_cmp_u b64))
      refine pm_if_eq (tgt := 113) hC ⟨by omega, by omega⟩ dX4_compareExactly_54 (by decide) (fun c65 => ?_) (fun c65 => ?_)
      · skip
        replace hb29 := hb29.trans (if_pos c65)
        obtain ⟨x66, ei67⟩ : ∃ y : Int, x20 + 1 = y := ⟨_, rfl⟩
        replace hb29 := hb29.trans (pf_let_eq ei67)
        refine pm_iinc (y := x66) (lv' := [(4, (0, x66)), (0, (3, 78)), (1, (3, 87)), (2, (3, 84)), (3, (0, a1))]) hC 4 dX4_compareExactly_113 (by decide) rfl ei67 rfl ?_
        refine pm_goto (tgt := 17) hC dX4_compareExactly_116 (by decide) ?_
        refine pm_lvsub [1, 2, 3, 4, 0] (lv' := [(0, (3, 78)), (1, (3, 87)), (2, (3, 84)), (3, (0, a1)), (4, (0, x66))]) rfl ?_
        exact ih33 _ (by omega) x66 V22 ⟨by omega, by omega⟩ hV23 hF24 e25 e26 (hT.trans (pf_val_inl hb29)) rfl
      · skip
        replace hb29 := hb29.trans (if_neg c65)
        refine pm_aload_n hC 0 (by decide) dX4_compareExactly_57 rfl ?_
        refine pm_getf (v := 79) hC 78 fl_X4_10 rfl rfl (by decide) rfl e25 dX4_compareExactly_58 ?_
        refine pm_aload_n hC 1 (by decide) dX4_compareExactly_61 rfl ?_
        refine pm_getf (v := 88) hC 87 fl_X4_51 rfl rfl (by decide) rfl e41 dX4_compareExactly_62 ?_
        refine pm_iload hC 4 dX4_compareExactly_65 rfl ?_
        refine pm_laload (len := 60) (v := y42) hC 88 rfl rfl (by decide) ⟨by omega, by omega⟩ (by decide) e43 dX4_compareExactly_67 ?_
        refine pm_callV (ci := 1) (as := [(1, y42)]) (st := []) hC 79 (fD_X1_times_79 y42 ⟨by omega, by omega⟩) lm_X4_65 li_X1_times (by decide) (by decide) rfl rfl rfl (by decide) rfl rfl (Nat.le_of_ble_eq_true rfl) ⟨Nat.le_refl _, Or.inl rfl⟩ dX4_compareExactly_68 ⟨rfl, hV23⟩ (fun r68 V69 hp70 => ?_)
        obtain ⟨rfl, hV71, hF72, hE73⟩ := hp70
        replace hb29 := hb29.trans (pf_call_eq hE73)
        change pm_J X 71 [(0, (3, 78)), (1, (3, 87)), (2, (3, 84)), (3, (0, a1)), (4, (0, x20))] [] 118 V69
        have hF74 := pm_ff.tr hF24 hF72 (by decide) (by decide)
        have e75 : V69 78 0 = 79 := by rw [hF72 78 0 (by decide) (by decide)]; exact e25
        have e76 : V69 78 1 = 81 := by rw [hF72 78 1 (by decide) (by decide)]; exact e26
        have e77 : V69 87 1 = 88 := by rw [hF72 87 1 (by decide) (by decide)]; exact e41
        have e78 : V69 84 2 = 86 := by rw [hF72 84 2 (by decide) (by decide)]; exact e45
        have e79 : V69 84 1 = 85 := by rw [hF72 84 1 (by decide) (by decide)]; exact e52
        have e80 : V69 87 2 = 89 := by rw [hF72 87 2 (by decide) (by decide)]; exact e56
        refine pm_aload_n hC 0 (by decide) dX4_compareExactly_71 rfl ?_
        refine pm_getf (v := 79) hC 78 fl_X4_10 rfl rfl (by decide) rfl e75 dX4_compareExactly_72 ?_
        refine pm_aload_n hC 2 (by decide) dX4_compareExactly_75 rfl ?_
        refine pm_getf (v := 86) hC 84 fl_X4_55 rfl rfl (by decide) rfl e78 dX4_compareExactly_76 ?_
        refine pm_iload hC 4 dX4_compareExactly_79 rfl ?_
        obtain ⟨y81, e82⟩ : ∃ y, V69 86 (x20 : Int).toNat = y := ⟨_, rfl⟩
        replace hb29 := hb29.trans (pf_let_eq e82)
        have b83 := hV71.get 86 (x20 : Int).toNat (lo := (-9223372036854775808)) (hi := 9223372036854775807) (by decide) (show _ < 60 by omega) rfl
        rw [e82] at b83
        refine pm_laload (len := 60) (v := y81) hC 86 rfl rfl (by decide) ⟨by omega, by omega⟩ (by decide) e82 dX4_compareExactly_81 ?_
        refine pm_callV (ci := 1) (as := [(1, y81)]) (st := []) hC 79 (fD_X1_times_79 y81 ⟨by omega, by omega⟩) lm_X4_65 li_X1_times (by decide) (by decide) rfl rfl rfl (by decide) rfl rfl (Nat.le_of_ble_eq_true rfl) ⟨Nat.le_refl _, Or.inl rfl⟩ dX4_compareExactly_82 ⟨rfl, hV71⟩ (fun r84 V85 hp86 => ?_)
        obtain ⟨rfl, hV87, hF88, hE89⟩ := hp86
        replace hb29 := hb29.trans (pf_call_eq hE89)
        change pm_J X 85 [(0, (3, 78)), (1, (3, 87)), (2, (3, 84)), (3, (0, a1)), (4, (0, x20))] [] 118 V85
        have hF90 := pm_ff.tr hF74 hF88 (by decide) (by decide)
        have e91 : V85 78 0 = 79 := by rw [hF88 78 0 (by decide) (by decide)]; exact e75
        have e92 : V85 78 1 = 81 := by rw [hF88 78 1 (by decide) (by decide)]; exact e76
        have e93 : V85 87 1 = 88 := by rw [hF88 87 1 (by decide) (by decide)]; exact e77
        have e94 : V85 84 2 = 86 := by rw [hF88 84 2 (by decide) (by decide)]; exact e78
        have e95 : V85 84 1 = 85 := by rw [hF88 84 1 (by decide) (by decide)]; exact e79
        have e96 : V85 87 2 = 89 := by rw [hF88 87 2 (by decide) (by decide)]; exact e80
        refine pm_aload_n hC 0 (by decide) dX4_compareExactly_85 rfl ?_
        refine pm_getf (v := 81) hC 78 fl_X4_16 rfl rfl (by decide) rfl e92 dX4_compareExactly_86 ?_
        refine pm_aload_n hC 2 (by decide) dX4_compareExactly_89 rfl ?_
        refine pm_getf (v := 85) hC 84 fl_X4_51 rfl rfl (by decide) rfl e95 dX4_compareExactly_90 ?_
        refine pm_iload hC 4 dX4_compareExactly_93 rfl ?_
        obtain ⟨y97, e98⟩ : ∃ y, V85 85 (x20 : Int).toNat = y := ⟨_, rfl⟩
        replace hb29 := hb29.trans (pf_let_eq e98)
        have b99 := hV87.get 85 (x20 : Int).toNat (lo := (-9223372036854775808)) (hi := 9223372036854775807) (by decide) (show _ < 60 by omega) rfl
        rw [e98] at b99
        refine pm_laload (len := 60) (v := y97) hC 85 rfl rfl (by decide) ⟨by omega, by omega⟩ (by decide) e98 dX4_compareExactly_95 ?_
        refine pm_callV (ci := 1) (as := [(1, y97)]) (st := []) hC 81 (fD_X1_times_81 y97 ⟨by omega, by omega⟩) lm_X4_65 li_X1_times (by decide) (by decide) rfl rfl rfl (by decide) rfl rfl (Nat.le_of_ble_eq_true rfl) ⟨Nat.le_refl _, Or.inl rfl⟩ dX4_compareExactly_96 ⟨rfl, hV87⟩ (fun r100 V101 hp102 => ?_)
        obtain ⟨rfl, hV103, hF104, hE105⟩ := hp102
        replace hb29 := hb29.trans (pf_call_eq hE105)
        change pm_J X 99 [(0, (3, 78)), (1, (3, 87)), (2, (3, 84)), (3, (0, a1)), (4, (0, x20))] [] 118 V101
        have hF106 := pm_ff.tr hF90 hF104 (by decide) (by decide)
        have e107 : V101 78 0 = 79 := by rw [hF104 78 0 (by decide) (by decide)]; exact e91
        have e108 : V101 78 1 = 81 := by rw [hF104 78 1 (by decide) (by decide)]; exact e92
        have e109 : V101 87 1 = 88 := by rw [hF104 87 1 (by decide) (by decide)]; exact e93
        have e110 : V101 84 2 = 86 := by rw [hF104 84 2 (by decide) (by decide)]; exact e94
        have e111 : V101 84 1 = 85 := by rw [hF104 84 1 (by decide) (by decide)]; exact e95
        have e112 : V101 87 2 = 89 := by rw [hF104 87 2 (by decide) (by decide)]; exact e96
        refine pm_aload_n hC 0 (by decide) dX4_compareExactly_99 rfl ?_
        refine pm_getf (v := 81) hC 78 fl_X4_16 rfl rfl (by decide) rfl e108 dX4_compareExactly_100 ?_
        refine pm_aload_n hC 1 (by decide) dX4_compareExactly_103 rfl ?_
        refine pm_getf (v := 89) hC 87 fl_X4_55 rfl rfl (by decide) rfl e112 dX4_compareExactly_104 ?_
        refine pm_iload hC 4 dX4_compareExactly_107 rfl ?_
        obtain ⟨y113, e114⟩ : ∃ y, V101 89 (x20 : Int).toNat = y := ⟨_, rfl⟩
        replace hb29 := hb29.trans (pf_let_eq e114)
        have b115 := hV103.get 89 (x20 : Int).toNat (lo := (-9223372036854775808)) (hi := 9223372036854775807) (by decide) (show _ < 60 by omega) rfl
        rw [e114] at b115
        refine pm_laload (len := 60) (v := y113) hC 89 rfl rfl (by decide) ⟨by omega, by omega⟩ (by decide) e114 dX4_compareExactly_109 ?_
        refine pm_callV (ci := 1) (as := [(1, y113)]) (st := []) hC 81 (fD_X1_times_81 y113 ⟨by omega, by omega⟩) lm_X4_65 li_X1_times (by decide) (by decide) rfl rfl rfl (by decide) rfl rfl (Nat.le_of_ble_eq_true rfl) ⟨Nat.le_refl _, Or.inl rfl⟩ dX4_compareExactly_110 ⟨rfl, hV103⟩ (fun r116 V117 hp118 => ?_)
        obtain ⟨rfl, hV119, hF120, hE121⟩ := hp118
        replace hb29 := hb29.trans (pf_call_eq hE121)
        change pm_J X 113 [(0, (3, 78)), (1, (3, 87)), (2, (3, 84)), (3, (0, a1)), (4, (0, x20))] [] 118 V117
        have hF122 := pm_ff.tr hF106 hF120 (by decide) (by decide)
        have e123 : V117 78 0 = 79 := by rw [hF120 78 0 (by decide) (by decide)]; exact e107
        have e124 : V117 78 1 = 81 := by rw [hF120 78 1 (by decide) (by decide)]; exact e108
        have e125 : V117 87 1 = 88 := by rw [hF120 87 1 (by decide) (by decide)]; exact e109
        have e126 : V117 84 2 = 86 := by rw [hF120 84 2 (by decide) (by decide)]; exact e110
        have e127 : V117 84 1 = 85 := by rw [hF120 84 1 (by decide) (by decide)]; exact e111
        have e128 : V117 87 2 = 89 := by rw [hF120 87 2 (by decide) (by decide)]; exact e112
        obtain ⟨x129, ei130⟩ : ∃ y : Int, x20 + 1 = y := ⟨_, rfl⟩
        replace hb29 := hb29.trans (pf_let_eq ei130)
        refine pm_iinc (y := x129) (lv' := [(4, (0, x129)), (0, (3, 78)), (1, (3, 87)), (2, (3, 84)), (3, (0, a1))]) hC 4 dX4_compareExactly_113 (by decide) rfl ei130 rfl ?_
        refine pm_goto (tgt := 17) hC dX4_compareExactly_116 (by decide) ?_
        refine pm_lvsub [1, 2, 3, 4, 0] (lv' := [(0, (3, 78)), (1, (3, 87)), (2, (3, 84)), (3, (0, a1)), (4, (0, x129))]) rfl ?_
        exact ih33 _ (by omega) x129 V117 ⟨by omega, by omega⟩ hV119 hF122 e123 e124 (hT.trans (pf_val_inl hb29)) rfl
  refine pm_lvsub [1, 2, 3, 4, 0] (lv' := [(0, (3, 78)), (1, (3, 87)), (2, (3, 84)), (3, (0, a1)), (4, (0, 0))]) rfl ?_
  exact L30 _ 0 V12 ⟨by decide, by decide⟩ hV14 hF17 e18 e19 hT rfl
set_option maxHeartbeats 4000000 in
set_option maxRecDepth 100000 in
theorem fD_X4_compareProducts_78_87_84  : pm_K 3 yX4_compareProducts cX4_compareProducts 8 (some .int) (fun av V => av = [(3, 78), (3, 87), (3, 84)] ∧ pm_ok 0 90 V) (fun _ V r V' => ∃ y, r = some (0, y) ∧ ((-1) ≤ y ∧ y ≤ 1) ∧ pm_ok 0 90 V' ∧ pm_ff [80, 82] [(79, 1), (81, 1)] V V' ∧ F_X4_compareProducts 87 84 V = (y, V')) := by
  refine pm_MT.of (by decide) ⟨Nat.le_refl _, by decide⟩ (fun av V h => by rw [h.1]; exact (by decide : pm_words [(3, 0), (3, 0), (3, 0)] ≤ 8)) ?_
  rintro X av V0 hC - hR ⟨rfl, hV0⟩
  change pm_J X 0 [(0, (3, 78)), (1, (3, 87)), (2, (3, 84))] [] 118 V0
  have hT := F_X4_compareProducts_eq 87 84 V0
  refine pm_aload_n hC 1 (by decide) dX4_compareProducts_0 rfl ?_
  refine pm_callV (ci := 0) (as := []) (st := []) hC 87 fD_X0_isNever_87 lm_X4_19 li_X0_isNever (by decide) (by decide) rfl rfl rfl (by decide) rfl rfl (Nat.le_of_ble_eq_true rfl) ⟨Nat.le_refl _, Or.inl rfl⟩ dX4_compareProducts_1 ⟨rfl, hV0⟩ (fun r1 V2 hp3 => ?_)
  obtain ⟨y4, rfl, b5, rfl, hE6⟩ := hp3
  replace hT := hT.trans (pf_call_eq hE6)
  change pm_J X 4 [(0, (3, 78)), (1, (3, 87)), (2, (3, 84))] [(0, y4)] 118 V0
  refine pm_istore_n (lv' := [(3, (0, y4)), (0, (3, 78)), (1, (3, 87)), (2, (3, 84))]) hC dX4_compareProducts_4 (by decide) rfl ?_
  refine pm_aload_n hC 3 (by decide) dX4_compareProducts_5 rfl ?_
  refine pm_callV (ci := 0) (as := []) (st := []) hC 84 fD_X0_isNever_84 lm_X4_19 li_X0_isNever (by decide) (by decide) rfl rfl rfl (by decide) rfl rfl (Nat.le_of_ble_eq_true rfl) ⟨Nat.le_refl _, Or.inl rfl⟩ dX4_compareProducts_6 ⟨rfl, hV0⟩ (fun r7 V8 hp9 => ?_)
  obtain ⟨y10, rfl, b11, rfl, hE12⟩ := hp9
  replace hT := hT.trans (pf_call_eq hE12)
  change pm_J X 9 [(3, (0, y4)), (0, (3, 78)), (1, (3, 87)), (2, (3, 84))] [(0, y10)] 118 V0
  refine pm_istore (lv' := [(4, (0, y10)), (3, (0, y4)), (0, (3, 78)), (1, (3, 87)), (2, (3, 84))]) hC dX4_compareProducts_9 (by decide) rfl ?_
  refine pm_iload_n hC 1 dX4_compareProducts_11 rfl ?_
  refine pm_if_ne (tgt := 20) hC ⟨by omega, by omega⟩ dX4_compareProducts_12 (by decide) (fun c13 => ?_) (fun c13 => ?_)
  · skip
    replace hT := hT.trans (if_pos c13)
    refine pm_iload hC 0 dX4_compareProducts_20 rfl ?_
    refine pm_if_eq (tgt := 29) hC ⟨by omega, by omega⟩ dX4_compareProducts_22 (by decide) (fun c14 => ?_) (fun c14 => ?_)
    · skip
      replace hT := hT.trans (if_pos c14)
      refine pm_iconst (v := 0) hC dX4_compareProducts_29 ?_
      refine pm_iload_n hC 1 dX4_compareProducts_30 rfl ?_
      refine pm_if_eq (tgt := 38) hC ⟨by omega, by omega⟩ dX4_compareProducts_31 (by decide) (fun c15 => ?_) (fun c15 => ?_)
      · skip
        replace hT := hT.trans (if_pos c15)
        exfalso; omega
      · skip
        replace hT := hT.trans (if_neg c15)
        refine pm_iconst (v := 1) hC dX4_compareProducts_34 ?_
        refine pm_goto (tgt := 39) hC dX4_compareProducts_35 (by decide) ?_
        refine pm_isub hC dX4_compareProducts_39 ?_
        change pm_J X 40 [(4, (0, y10)), (3, (0, y4)), (0, (3, 78)), (1, (3, 87)), (2, (3, 84))] [(0, (-1))] 118 V0
        exact pm_iret hC hR pm_nar0 ⟨(-1), rfl, ⟨by omega, by omega⟩, hV0, (pm_ff.rf (cs := [80, 82]) (fs := [(79, 1), (81, 1)]) (V := V0)), hT⟩ dX4_compareProducts_40
    · skip
      replace hT := hT.trans (if_neg c14)
      refine pm_iconst (v := 1) hC dX4_compareProducts_25 ?_
      refine pm_goto (tgt := 30) hC dX4_compareProducts_26 (by decide) ?_
      refine pm_iload_n hC 1 dX4_compareProducts_30 rfl ?_
      refine pm_if_eq (tgt := 38) hC ⟨by omega, by omega⟩ dX4_compareProducts_31 (by decide) (fun c16 => ?_) (fun c16 => ?_)
      · skip
        replace hT := hT.trans (if_pos c16)
        exfalso; omega
      · skip
        replace hT := hT.trans (if_neg c16)
        refine pm_iconst (v := 1) hC dX4_compareProducts_34 ?_
        refine pm_goto (tgt := 39) hC dX4_compareProducts_35 (by decide) ?_
        refine pm_isub hC dX4_compareProducts_39 ?_
        change pm_J X 40 [(4, (0, y10)), (3, (0, y4)), (0, (3, 78)), (1, (3, 87)), (2, (3, 84))] [(0, 0)] 118 V0
        exact pm_iret hC hR pm_nar0 ⟨0, rfl, ⟨by omega, by omega⟩, hV0, (pm_ff.rf (cs := [80, 82]) (fs := [(79, 1), (81, 1)]) (V := V0)), hT⟩ dX4_compareProducts_40
  · skip
    replace hT := hT.trans (if_neg (fun q => q c13))
    refine pm_iload hC 0 dX4_compareProducts_15 rfl ?_
    refine pm_if_eq (tgt := 41) hC ⟨by omega, by omega⟩ dX4_compareProducts_17 (by decide) (fun c17 => ?_) (fun c17 => ?_)
    · skip
      replace hT := hT.trans (if_pos c17)
      refine pm_aload_n hC 3 (by decide) dX4_compareProducts_41 rfl ?_
      obtain ⟨y18, e19⟩ : ∃ y, V0 87 0 = y := ⟨_, rfl⟩
      have b20 := hV0.get 87 0 (lo := 0) (hi := 60) (by decide) (by decide) rfl
      rw [e19] at b20
      replace hT := hT.trans (pf_let_eq e19)
      refine pm_getf (v := y18) hC 87 fl_X4_25 rfl rfl (by decide) rfl e19 dX4_compareProducts_42 ?_
      refine pm_aload_n hC 4 (by decide) dX4_compareProducts_45 rfl ?_
      obtain ⟨y21, e22⟩ : ∃ y, V0 84 0 = y := ⟨_, rfl⟩
      have b23 := hV0.get 84 0 (lo := 0) (hi := 60) (by decide) (by decide) rfl
      rw [e22] at b23
      replace hT := hT.trans (pf_let_eq e22)
      refine pm_getf (v := y21) hC 84 fl_X4_25 rfl rfl (by decide) rfl e22 dX4_compareProducts_46 ?_
      refine pm_mmin hC 4159 4160 1018 4161 ⟨by omega, by omega⟩ ⟨by omega, by omega⟩ (by decide) wL_X4_29 wS_mmin wI_math wC_mmin (Nat.le_of_ble_eq_true rfl) dX4_compareProducts_49 (fun y24 b25 => ?_)
      have he26 : pm_mn y18 y21 = y24 := pm_mn_of b25
      replace b25 : 0 ≤ y24 ∧ y24 ≤ 60 ∧ y24 ≤ y18 ∧ y24 ≤ y21 := ⟨by omega, by omega, b25.1, b25.2.1⟩
      replace hT := hT.trans (pf_let_eq he26)
      refine pm_istore (lv' := [(5, (0, y24)), (4, (0, y10)), (3, (0, y4)), (0, (3, 78)), (1, (3, 87)), (2, (3, 84))]) hC dX4_compareProducts_52 (by decide) rfl ?_
      refine pm_aload_n hC 4 (by decide) dX4_compareProducts_54 rfl ?_
      refine pm_aload_n hC 5 (by decide) dX4_compareProducts_55 rfl ?_
      refine pm_iload hC 0 dX4_compareProducts_56 rfl ?_
      refine pm_callS (as := [(3, 87), (3, 84), (0, y24)]) (st := []) hC (fD_X4_roughQuotient_87_84 y24 ⟨by omega, by omega⟩) lm_X4_35 ls_X4_roughQuotient (by decide) (by decide) rfl rfl (Nat.le_of_ble_eq_true rfl) ⟨Nat.le_refl _, Or.inl rfl⟩ dX4_compareProducts_58 ⟨rfl, hV0⟩ (fun r27 V28 hp29 => ?_)
      obtain ⟨y30, rfl, b31, rfl, hE32⟩ := hp29
      replace hT := hT.trans (pf_call_eq hE32)
      change pm_J X 61 [(5, (0, y24)), (4, (0, y10)), (3, (0, y4)), (0, (3, 78)), (1, (3, 87)), (2, (3, 84))] [(2, y30)] 118 V0
      refine pm_dstore (lv' := [(6, (2, y30)), (5, (0, y24)), (4, (0, y10)), (3, (0, y4)), (0, (3, 78)), (1, (3, 87)), (2, (3, 84))]) hC dX4_compareProducts_61 (by decide) rfl ?_
      refine pm_dload hC 0 dX4_compareProducts_63 rfl ?_
      refine pm_ldc2dV (v := 4607182418804521008) (z := 4607182418804521008) hC 4171 dX4_compareProducts_65 (by decide +kernel) rfl ?_
      refine pm_dcmpV hC dX4_compareProducts_68 (fun y33 e34 b35 => ?_)
      replace hT := hT.trans (pf_let_eq e34)
      have b35 := And.intro b35.1 b35.2
      refine pm_if_le (tgt := 74) hC ⟨by omega, by omega⟩ dX4_compareProducts_69 (by decide) (fun c36 => ?_) (fun c36 => ?_)
      · skip
        replace hT := hT.trans (if_pos c36)
        refine pm_dload hC 0 dX4_compareProducts_74 rfl ?_
        refine pm_ldc2dV (v := 4607182418791010209) (z := 4607182418791010209) hC 4172 dX4_compareProducts_76 (by decide +kernel) rfl ?_
        refine pm_dcmpV hC dX4_compareProducts_79 (fun y37 e38 b39 => ?_)
        replace hT := hT.trans (pf_let_eq e38)
        have b39 := And.intro b39.1 b39.2
        refine pm_if_ge (tgt := 85) hC ⟨by omega, by omega⟩ dX4_compareProducts_80 (by decide) (fun c40 => ?_) (fun c40 => ?_)
        · skip
          replace hT := hT.trans (if_pos c40)
          refine pm_aload_n hC 4 (by decide) dX4_compareProducts_85 rfl ?_
          refine pm_aload_n hC 5 (by decide) dX4_compareProducts_86 rfl ?_
          refine pm_aload_n hC 6 (by decide) dX4_compareProducts_87 rfl ?_
          refine pm_iload hC 1 dX4_compareProducts_88 rfl ?_
          refine pm_callV (ci := 4) (as := [(3, 87), (3, 84), (0, y24)]) (st := []) hC 78 (fD_X4_compareExactly_78_87_84 y24 ⟨by omega, by omega⟩) lm_X4_43 li_X4_compareExactly (by decide) (by decide) rfl rfl rfl (by decide) rfl rfl (Nat.le_of_ble_eq_true rfl) ⟨Nat.le_refl _, Or.inl rfl⟩ dX4_compareProducts_90 ⟨rfl, hV0⟩ (fun r41 V42 hp43 => ?_)
          obtain ⟨y44, rfl, b45, hV46, hF47, hE48⟩ := hp43
          replace hT := hT.trans (pf_call_eq hE48)
          change pm_J X 93 [(6, (2, y30)), (5, (0, y24)), (4, (0, y10)), (3, (0, y4)), (0, (3, 78)), (1, (3, 87)), (2, (3, 84))] [(0, y44)] 118 V42
          have hF49 := pm_ff.tr (pm_ff.rf (cs := [80, 82]) (fs := [(79, 1), (81, 1)]) (V := V0)) hF47 (by decide) (by decide)
          have e50 : V42 87 0 = y18 := by rw [hF47 87 0 (by decide) (by decide)]; exact e19
          have e51 : V42 84 0 = y21 := by rw [hF47 84 0 (by decide) (by decide)]; exact e22
          exact pm_iret hC hR pm_nar0 ⟨y44, rfl, ⟨by omega, by omega⟩, hV46, hF49, hT⟩ dX4_compareProducts_93
        · skip
          replace hT := hT.trans (if_neg (Int.not_le.mpr c40))
          refine pm_iconst (v := (-1)) hC dX4_compareProducts_83 ?_
          exact pm_iret hC hR pm_nar0 ⟨(-1), rfl, ⟨by omega, by omega⟩, hV0, (pm_ff.rf (cs := [80, 82]) (fs := [(79, 1), (81, 1)]) (V := V0)), hT⟩ dX4_compareProducts_84
      · skip
        replace hT := hT.trans (if_neg (Int.not_le.mpr c36))
        refine pm_iconst (v := 1) hC dX4_compareProducts_72 ?_
        exact pm_iret hC hR pm_nar0 ⟨1, rfl, ⟨by omega, by omega⟩, hV0, (pm_ff.rf (cs := [80, 82]) (fs := [(79, 1), (81, 1)]) (V := V0)), hT⟩ dX4_compareProducts_73
    · skip
      replace hT := hT.trans (if_neg c17)
      refine pm_iload hC 0 dX4_compareProducts_20 rfl ?_
      refine pm_if_eq (tgt := 29) hC ⟨by omega, by omega⟩ dX4_compareProducts_22 (by decide) (fun c52 => ?_) (fun c52 => ?_)
      · skip
        replace hT := hT.trans (if_pos c52)
        exfalso; omega
      · skip
        replace hT := hT.trans (if_neg c52)
        refine pm_iconst (v := 1) hC dX4_compareProducts_25 ?_
        refine pm_goto (tgt := 30) hC dX4_compareProducts_26 (by decide) ?_
        refine pm_iload_n hC 1 dX4_compareProducts_30 rfl ?_
        refine pm_if_eq (tgt := 38) hC ⟨by omega, by omega⟩ dX4_compareProducts_31 (by decide) (fun c53 => ?_) (fun c53 => ?_)
        · skip
          replace hT := hT.trans (if_pos c53)
          refine pm_iconst (v := 0) hC dX4_compareProducts_38 ?_
          refine pm_isub hC dX4_compareProducts_39 ?_
          change pm_J X 40 [(4, (0, y10)), (3, (0, y4)), (0, (3, 78)), (1, (3, 87)), (2, (3, 84))] [(0, 1)] 118 V0
          exact pm_iret hC hR pm_nar0 ⟨1, rfl, ⟨by omega, by omega⟩, hV0, (pm_ff.rf (cs := [80, 82]) (fs := [(79, 1), (81, 1)]) (V := V0)), hT⟩ dX4_compareProducts_40
        · skip
          replace hT := hT.trans (if_neg c53)
          exfalso; omega
set_option maxHeartbeats 4000000 in
set_option maxRecDepth 100000 in
theorem fD_X4_factorOf_87_87 (a1 : Int) (h0 : 0 ≤ a1 ∧ a1 ≤ 119) : pm_K 1 yX4_factorOf cX4_factorOf 6 (some .long) (fun av V => av = [(3, 87), (3, 87), (0, a1)] ∧ pm_ok 0 90 V) (fun _ V r V' => ∃ y, r = some (1, y) ∧ (1 ≤ y ∧ y ≤ 9223372036854775807) ∧ V = V' ∧ F_X4_factorOfS 87 a1 V = (y, V)) := by
  refine pm_MT.of (by decide) ⟨Nat.le_refl _, by decide⟩ (fun av V h => by rw [h.1]; exact (by decide : pm_words [(3, 0), (3, 0), (0, 0)] ≤ 6)) ?_
  rintro X av V0 hC - hR ⟨rfl, hV0⟩
  change pm_J X 0 [(0, (3, 87)), (1, (3, 87)), (2, (0, a1))] [] 118 V0
  have hT := F_X4_factorOfS_eq 87 a1 V0
  refine pm_iload_n hC 2 dX4_factorOf_0 rfl ?_
  refine pm_iconst (v := 2) hC dX4_factorOf_1 ?_
  refine pm_idiv hC ⟨by omega, by omega, by omega⟩ ⟨by decide, by decide, by decide⟩ dX4_factorOf_2 ?_
  refine pm_istore_n (lv' := [(3, (0, (a1 / 2))), (0, (3, 87)), (1, (3, 87)), (2, (0, a1))]) hC dX4_factorOf_3 (by decide) rfl ?_
  refine pm_iload_n hC 3 dX4_factorOf_4 rfl ?_
  refine pm_iconst (v := 2) hC dX4_factorOf_5 ?_
  refine pm_irem hC ⟨by omega, by omega, by omega⟩ ⟨by decide, by decide, by decide⟩ dX4_factorOf_6 ?_
  refine pm_if_ne (tgt := 19) hC ⟨by omega, by omega⟩ dX4_factorOf_7 (by decide) (fun c1 => ?_) (fun c1 => ?_)
  · skip
    replace hT := hT.trans (if_pos c1)
    refine pm_aload_n hC 2 (by decide) dX4_factorOf_19 rfl ?_
    have e2 : V0 87 2 = 89 := hV0.one 87 2 (by decide) (by decide) rfl
    refine pm_getf (v := 89) hC 87 fl_X4_55 rfl rfl (by decide) rfl e2 dX4_factorOf_20 ?_
    refine pm_iload_n hC 0 dX4_factorOf_23 rfl ?_
    obtain ⟨y3, e4⟩ : ∃ y, V0 89 ((a1 / 2) : Int).toNat = y := ⟨_, rfl⟩
    replace hT := hT.trans (pf_let_eq e4)
    have b5 := hV0.get 89 ((a1 / 2) : Int).toNat (lo := (-9223372036854775808)) (hi := 9223372036854775807) (by decide) (show _ < 60 by omega) rfl
    rw [e4] at b5
    refine pm_laload (len := 60) (v := y3) hC 89 rfl rfl (by decide) ⟨by omega, by omega⟩ (by decide) e4 dX4_factorOf_24 ?_
    refine pm_lstore (lv' := [(4, (1, y3)), (3, (0, (a1 / 2))), (0, (3, 87)), (1, (3, 87)), (2, (0, a1))]) hC dX4_factorOf_25 (by decide) rfl ?_
    refine pm_lconst (x := 1) hC dX4_factorOf_27 rfl ?_
    refine pm_lload hC 0 dX4_factorOf_28 rfl ?_
    refine pm_mmaxL hC 4168 4169 1018 4170 ⟨by decide, by decide⟩ ⟨by omega, by omega⟩ (by decide) wL_X4_58 wS_mmaxL wI_math wC_mmaxL (Nat.le_of_ble_eq_true rfl) dX4_factorOf_30 (fun y6 b7 => ?_)
    have he8 : pm_mx 1 y3 = y6 := pm_mx_of b7
    replace b7 : 1 ≤ y6 ∧ y6 ≤ 9223372036854775807 ∧ 1 ≤ y6 ∧ y3 ≤ y6 := ⟨by omega, by omega, b7.1, b7.2.1⟩
    replace hT := hT.trans (pf_let_eq he8)
    exact pm_lret hC hR ⟨y6, rfl, ⟨by omega, by omega⟩, rfl, hT⟩ dX4_factorOf_33
  · skip
    replace hT := hT.trans (if_neg (fun q => q c1))
    refine pm_aload_n hC 1 (by decide) dX4_factorOf_10 rfl ?_
    have e9 : V0 87 1 = 88 := hV0.one 87 1 (by decide) (by decide) rfl
    refine pm_getf (v := 88) hC 87 fl_X4_51 rfl rfl (by decide) rfl e9 dX4_factorOf_11 ?_
    refine pm_iload_n hC 0 dX4_factorOf_14 rfl ?_
    obtain ⟨y10, e11⟩ : ∃ y, V0 88 ((a1 / 2) : Int).toNat = y := ⟨_, rfl⟩
    replace hT := hT.trans (pf_let_eq e11)
    have b12 := hV0.get 88 ((a1 / 2) : Int).toNat (lo := (-9223372036854775808)) (hi := 9223372036854775807) (by decide) (show _ < 60 by omega) rfl
    rw [e11] at b12
    refine pm_laload (len := 60) (v := y10) hC 88 rfl rfl (by decide) ⟨by omega, by omega⟩ (by decide) e11 dX4_factorOf_15 ?_
    refine pm_goto (tgt := 25) hC dX4_factorOf_16 (by decide) ?_
    refine pm_lstore (lv' := [(4, (1, y10)), (3, (0, (a1 / 2))), (0, (3, 87)), (1, (3, 87)), (2, (0, a1))]) hC dX4_factorOf_25 (by decide) rfl ?_
    refine pm_lconst (x := 1) hC dX4_factorOf_27 rfl ?_
    refine pm_lload hC 0 dX4_factorOf_28 rfl ?_
    refine pm_mmaxL hC 4168 4169 1018 4170 ⟨by decide, by decide⟩ ⟨by omega, by omega⟩ (by decide) wL_X4_58 wS_mmaxL wI_math wC_mmaxL (Nat.le_of_ble_eq_true rfl) dX4_factorOf_30 (fun y13 b14 => ?_)
    have he15 : pm_mx 1 y10 = y13 := pm_mx_of b14
    replace b14 : 1 ≤ y13 ∧ y13 ≤ 9223372036854775807 ∧ 1 ≤ y13 ∧ y10 ≤ y13 := ⟨by omega, by omega, b14.1, b14.2.1⟩
    replace hT := hT.trans (pf_let_eq he15)
    exact pm_lret hC hR ⟨y13, rfl, ⟨by omega, by omega⟩, rfl, hT⟩ dX4_factorOf_33
