theorem ow_66f_0 {a1 a2 a3 : Int} {k0 : Nat} (h0 : (((k0 : Nat) : Int) < (0 : Int))) : ¬((a1 = (((a2 * 10) + a3) : Int))) := by omega
theorem ow_66f_1 {a0 a1 : Int} {k2 : Nat} (h0 : (a0 ≤ (a1 : Int))) (h1 : (((k2 : Nat) : Int) < (a0 : Int))) : (((k2 : Nat) : Int) < (a1 : Int)) := by omega
theorem ow_66f_2 {a0 a1 : Int} (h0 : (0 ≤ (a0 : Int))) (h1 : ¬((a1 ≤ (a0 : Int)))) : ((((a0 : Int).toNat : Nat) : Int) < (a1 : Int)) := by omega
theorem ow_66f_3 {a0 : Int} (h0 : (0 ≤ (a0 : Int))) : ¬((a0 = ((-1) : Int))) := by omega
theorem ow_66f_4 {a0 : Int} (h0 : (0 ≤ (a0 : Int))) : (0 ≤ ((a0 + 1) : Int)) := by omega
theorem ow_66f_5 {a0 a1 : Int} (h0 : ¬((a0 ≤ (a1 : Int)))) : ((a1 + 1) ≤ (a0 : Int)) := by omega
theorem ow_66f_6 {a0 a1 : Int} (h0 : ¬((a0 ≤ (a1 : Int)))) : (((a0 - (a1 + 1)) : Int).toNat < (((a0 - a1) : Int).toNat : Nat)) := by omega
theorem ow_66f_7 {a1 : Int} {k0 : Nat} (h0 : (((k0 : Nat) : Int) < ((a1 + 1) : Int))) (h1 : ¬((((k0 : Nat) : Int) < (a1 : Int)))) : (k0 = ((a1 : Int).toNat : Nat)) := by omega
theorem ow_66f_8 {a0 a1 : Int} (h0 : (a0 = (a1 : Int))) (h1 : (a1 = (12 : Int))) : ¬((a0 < (12 : Int))) := by omega
theorem ow_66f_9 {a0 a1 : Int} (h0 : (a0 = (a1 : Int))) (h1 : (a0 ≤ (12 : Int))) (h2 : ¬((a1 = (12 : Int)))) : (a0 < (12 : Int)) := by omega
theorem ow_66f_10 {k0 : Nat} (h0 : ((k0 = (45 : Nat)) ∨ (k0 = (51 : Nat)))) : (k0 ≠ (3 : Nat)) := by omega
theorem ow_66f_11 {k0 : Nat} (h0 : ((k0 = (45 : Nat)) ∨ (k0 = (51 : Nat)))) : ((k0 + 1) ≠ (3 : Nat)) := by omega
theorem ow_66f_12 {k0 : Nat} (h0 : ((k0 = (45 : Nat)) ∨ (k0 = (51 : Nat)))) : ((k0 + 2) ≠ (3 : Nat)) := by omega
theorem ow_66f_13 {k0 : Nat} (h0 : ((k0 = (45 : Nat)) ∨ (k0 = (51 : Nat)))) : ((k0 + 3) ≠ (3 : Nat)) := by omega
theorem ow_66f_14 {k0 : Nat} : ((k0 + 4) ≠ (3 : Nat)) := by omega
theorem ow_66f_15 {k0 : Nat} : ((k0 + 5) ≠ (3 : Nat)) := by omega
theorem ow_66f_16 {a0 : Int} : ((((3 * a0) + 0) : Int).toNat = ((3 * (a0 : Int).toNat) : Nat)) := by omega
theorem ow_66f_17 {a0 a1 : Int} (h0 : (0 ≤ (a0 : Int))) (h1 : (a0 = (a1 : Int))) (h2 : ((((3 * a1) + 0) : Int).toNat = ((3 * (a1 : Int).toNat) : Nat))) : ((((3 * a1) + (0 + 1)) : Int).toNat = (((3 * (a1 : Int).toNat) + 1) : Nat)) := by omega
theorem ow_66f_18 {k0 : Nat} : (((3 * ((k0 : Nat) : Int)) : Int).toNat = ((3 * k0) : Nat)) := by omega
theorem ow_66f_19 {k0 : Nat} : ((((3 * ((k0 : Nat) : Int)) + 1) : Int).toNat = (((3 * k0) + 1) : Nat)) := by omega
theorem ow_66f_20 {a0 a1 : Int} {k2 : Nat} (h0 : (a0 = (a1 : Int))) (h1 : ((((3 * a1) + (0 + 1)) : Int).toNat = (((3 * (a1 : Int).toNat) + 1) : Nat))) (h2 : (((k2 : Nat) : Int) < (a0 : Int))) : (((3 * a1) : Int).toNat = ((3 * (a1 : Int).toNat) : Nat)) := by omega
theorem ow_66f_21 {a0 a1 : Int} {k2 : Nat} (h0 : (a0 = (a1 : Int))) (h1 : ((((3 * a1) + (0 + 1)) : Int).toNat = (((3 * (a1 : Int).toNat) + 1) : Nat))) (h2 : (((k2 : Nat) : Int) < (a0 : Int))) : ((((3 * a1) + 1) : Int).toNat = (((3 * (a1 : Int).toNat) + 1) : Nat)) := by omega
theorem ow_66f_22 {a0 a1 : Int} {k2 : Nat} (h0 : (a0 = (a1 : Int))) (h1 : (((k2 : Nat) : Int) < (a0 : Int))) : ¬(((3 * k2) = (((3 * (a1 : Int).toNat) + 1) : Nat))) := by omega
theorem ow_66f_23 {a0 a1 : Int} {k2 : Nat} (h0 : (a0 = (a1 : Int))) (h1 : (((k2 : Nat) : Int) < (a0 : Int))) : ¬(((3 * k2) = ((3 * (a1 : Int).toNat) : Nat))) := by omega
theorem ow_66f_24 {a0 a1 : Int} {k2 : Nat} (h0 : (a0 = (a1 : Int))) (h1 : (((k2 : Nat) : Int) < (a0 : Int))) : ¬((((3 * k2) + 1) = (((3 * (a1 : Int).toNat) + 1) : Nat))) := by omega
theorem ow_66f_25 {a0 a1 : Int} {k2 : Nat} (h0 : (a0 = (a1 : Int))) (h1 : (((k2 : Nat) : Int) < (a0 : Int))) : ¬((((3 * k2) + 1) = ((3 * (a1 : Int).toNat) : Nat))) := by omega
theorem ow_66f_26 {a0 : Int} : ¬(((3 * (a0 : Int).toNat) = (((3 * (a0 : Int).toNat) + 1) : Nat))) := by omega
theorem ow_66f_27 {a0 a1 a2 a3 : Int} (h0 : (a0 = (a1 : Int))) (h1 : (a2 = (a3 : Int))) : (((a0 * 10) + a2) = (((a1 * 10) + a3) : Int)) := by omega
theorem ow_66f_28 {a0 a1 : Int} (h0 : (0 ≤ (a0 : Int))) (h1 : (a1 = (a0 : Int))) : (0 ≤ (a1 : Int)) := by omega
theorem ow_66f_29 {k0 : Nat} : (0 ≤ (((k0 : Nat) : Int) : Int)) := by omega
theorem ow_66f_30 {a0 a1 a2 a4 : Int} {k3 : Nat} (h0 : (a0 = (a1 : Int))) (h1 : (a2 = (a0 : Int))) (h2 : (((k3 : Nat) : Int) < (a2 : Int))) (h3 : (a4 ≤ (((k3 : Nat) : Int) : Int))) : ¬((a1 ≤ (a4 : Int))) := by omega
theorem ow_66f_31 {a0 : Int} {k1 : Nat} (h0 : (a0 ≤ (((k1 : Nat) : Int) : Int))) (h1 : ¬((a0 = (((k1 : Nat) : Int) : Int)))) : ((a0 + 1) ≤ (((k1 : Nat) : Int) : Int)) := by omega
theorem ow_66f_32 {a0 a1 a2 a4 : Int} {k3 : Nat} (h0 : (a0 = (a1 : Int))) (h1 : (a2 = (a0 : Int))) (h2 : (((k3 : Nat) : Int) < (a2 : Int))) (h3 : (a4 ≤ (((k3 : Nat) : Int) : Int))) : (((a1 - (a4 + 1)) : Int).toNat < (((a1 - a4) : Int).toNat : Nat)) := by omega
theorem ow_66f_33 {a0 a1 : Int} {k2 : Nat} (h0 : (a0 = (a1 : Int))) (h1 : (((k2 : Nat) : Int) < (a0 : Int))) : (((k2 : Nat) : Int) < (a1 : Int)) := by omega
theorem ow_66f_34 {a0 a1 : Int} (h0 : (0 ≤ (a0 : Int))) (h1 : (a0 = (a1 : Int))) : (0 ≤ (a1 : Int)) := by omega
theorem ow_66f_35 {a0 a1 a2 : Int} (h0 : (a0 = (a1 : Int))) (h1 : (0 ≤ (a2 : Int))) (h2 : ¬((a1 ≤ (a2 : Int)))) : ((((a2 : Int).toNat : Nat) : Int) < (a0 : Int)) := by omega
theorem ow_66f_36 {a0 a1 a2 a3 : Int} (h0 : (a0 = (a1 : Int))) (h1 : (a2 = (a0 : Int))) (h2 : (0 ≤ (a3 : Int))) (h3 : ¬((a1 ≤ (a3 : Int)))) : ((((a3 : Int).toNat : Nat) : Int) < (a2 : Int)) := by omega
theorem ow_66f_37 {a0 a1 a2 a3 a4 a5 a6 a7 a8 a9 a10 a11 a12 a13 a14 a15 a16 a17 : Int} (h0 : (a0 ≤ (a1 : Int))) (h1 : (a2 ≤ (a3 : Int))) (h2 : (a4 ≤ (a5 : Int))) (h3 : (a6 ≤ (a7 : Int))) (h4 : (a7 ≤ (a8 : Int))) (h5 : ((a1 = (a9 : Int)) ∧ ((a2 = (a10 : Int)) ∧ ((0 ≤ (a2 : Int)) ∧ ((a2 ≤ (a11 : Int)) ∧ ((0 ≤ (a1 : Int)) ∧ (a1 ≤ (a2 : Int)))))))) (h6 : ((a3 = (a12 : Int)) ∧ ((a4 = (a13 : Int)) ∧ ((0 ≤ (a4 : Int)) ∧ ((a4 ≤ (a14 : Int)) ∧ ((0 ≤ (a3 : Int)) ∧ (a3 ≤ (a4 : Int)))))))) (h7 : ((a5 = (a15 : Int)) ∧ ((a6 = (a16 : Int)) ∧ ((0 ≤ (a6 : Int)) ∧ ((a6 ≤ (a17 : Int)) ∧ ((0 ≤ (a5 : Int)) ∧ (a5 ≤ (a6 : Int)))))))) : (a0 ≤ (a8 : Int)) := by omega
theorem ow_66f_38 {a0 a1 : Int} (h0 : (0 ≤ (a0 : Int))) (h1 : (a0 = (a1 : Int))) (h2 : ((((3 * a1) + 0) : Int).toNat = ((3 * (a1 : Int).toNat) : Nat))) (h3 : ((((3 * a1) + (0 + 1)) : Int).toNat = (((3 * (a1 : Int).toNat) + 1) : Nat))) : ((((3 * a1) + ((0 + 1) + 1)) : Int).toNat = (((3 * (a1 : Int).toNat) + 2) : Nat)) := by omega
theorem ow_66f_39 {a0 a1 : Int} (h0 : (a0 = (a1 : Int))) : ((a0 + 1) = ((a1 + 1) : Int)) := by omega
theorem ow_66f_40 {a0 a1 : Int} (h0 : (a0 ≤ (12 : Int))) (h1 : ¬((a1 = (12 : Int)))) (h2 : (a0 = (a1 : Int))) : ((a0 + 1) ≤ (12 : Int)) := by omega
theorem ow_66f_41 {a0 a1 : Int} (h0 : (a0 = (a1 : Int))) (h1 : ((((3 * a1) + 0) : Int).toNat = ((3 * (a1 : Int).toNat) : Nat))) (h2 : ((((3 * a1) + ((0 + 1) + 1)) : Int).toNat = (((3 * (a1 : Int).toNat) + 2) : Nat))) : ((a1 : Int).toNat = ((a0 : Int).toNat : Nat)) := by omega
theorem ow_66f_42 {a0 : Int} : ¬(((3 * (a0 : Int).toNat) = (((3 * (a0 : Int).toNat) + 2) : Nat))) := by omega
theorem ow_66f_43 {a0 : Int} : ¬((((3 * (a0 : Int).toNat) + 1) = (((3 * (a0 : Int).toNat) + 2) : Nat))) := by omega
theorem ow_66f_44 {a0 a1 a2 : Int} (h0 : ((0 ≤ (a0 : Int)) ∧ (a0 < (a1 : Int)))) (h1 : (a1 = (a2 : Int))) : (a0 < (a2 : Int)) := by omega
theorem ow_66f_45 {a0 a1 a2 a3 a4 : Int} (h0 : ((0 ≤ (a0 : Int)) ∧ (a0 < (a1 : Int)))) (h1 : ((a2 = ((-1) : Int)) ∨ ((0 ≤ (a2 : Int)) ∧ (a2 < (a3 : Int))))) (h2 : (a1 = (a4 : Int))) (h3 : (a3 = (a4 : Int))) : (a2 < (a4 : Int)) := by omega
theorem ow_66f_46 {a1 : Int} {k0 : Nat} (h0 : (((k0 : Nat) : Int) < ((a1 + 1) : Int))) : ¬(((3 * k0) = (((3 * (a1 : Int).toNat) + 2) : Nat))) := by omega
theorem ow_66f_47 {a1 : Int} {k0 : Nat} (h0 : (((k0 : Nat) : Int) < ((a1 + 1) : Int))) : ¬(((3 * k0) = (((3 * (a1 : Int).toNat) + 1) : Nat))) := by omega
theorem ow_66f_48 {a1 : Int} {k0 : Nat} (h0 : ¬((k0 = ((a1 : Int).toNat : Nat)))) : ¬(((3 * k0) = ((3 * (a1 : Int).toNat) : Nat))) := by omega
theorem ow_66f_49 {a1 : Int} {k0 : Nat} (h0 : (((k0 : Nat) : Int) < ((a1 + 1) : Int))) : ¬((((3 * k0) + 1) = (((3 * (a1 : Int).toNat) + 2) : Nat))) := by omega
theorem ow_66f_50 {a1 : Int} {k0 : Nat} (h0 : ¬((k0 = ((a1 : Int).toNat : Nat)))) : ¬((((3 * k0) + 1) = (((3 * (a1 : Int).toNat) + 1) : Nat))) := by omega
theorem ow_66f_51 {a1 : Int} {k0 : Nat} (h0 : ¬((k0 = ((a1 : Int).toNat : Nat)))) : ¬((((3 * k0) + 1) = ((3 * (a1 : Int).toNat) : Nat))) := by omega
theorem ow_66f_52 {a1 : Int} {k0 : Nat} (h0 : ¬((k0 = ((a1 : Int).toNat : Nat)))) : ¬((((3 * k0) + 2) = (((3 * (a1 : Int).toNat) + 2) : Nat))) := by omega
theorem ow_66f_53 {a1 : Int} {k0 : Nat} (h0 : ¬((k0 = ((a1 : Int).toNat : Nat)))) : ¬((((3 * k0) + 2) = (((3 * (a1 : Int).toNat) + 1) : Nat))) := by omega
theorem ow_66f_54 {a1 : Int} {k0 : Nat} (h0 : ¬((k0 = ((a1 : Int).toNat : Nat)))) : ¬((((3 * k0) + 2) = ((3 * (a1 : Int).toNat) : Nat))) := by omega
theorem ow_66f_55 {a0 a1 : Int} {k2 : Nat} (h0 : (a0 = (a1 : Int))) (h1 : ((((3 * a1) + 0) : Int).toNat = ((3 * (a1 : Int).toNat) : Nat))) (h2 : ((((3 * a1) + (0 + 1)) : Int).toNat = (((3 * (a1 : Int).toNat) + 1) : Nat))) (h3 : (((k2 : Nat) : Int) < ((a0 + 1) : Int))) (h4 : ((a1 : Int).toNat = ((a0 : Int).toNat : Nat))) (h5 : ¬((k2 = ((a0 : Int).toNat : Nat)))) : (((k2 : Nat) : Int) < (a0 : Int)) := by omega
theorem c_learnt {sc : Nat} {V : pm_M} {a b : Int} (h0 : 0 ≤ V sc 10) (hp : ∀ k : Nat, (k : Int) < V sc 10 → 0 ≤ V (sc + 5) k) : ∃ y, F_X5_learntOf sc a b V = (y, V) ∧ ((y = -1 ∧ ∀ k : Nat, (k : Int) < V sc 10 → ¬ V (sc + 4) k = a * 10 + b) ∨ (¬ y = -1 ∧ ∃ k : Nat, (k : Int) < V sc 10 ∧ V (sc + 4) k = a * 10 + b)) := by
  rw [F_X5_learntOf_eq]
  simp only [pf_let]
  refine pf_val_ind2 (fun (x : Int) => 0 ≤ x ∧ x ≤ V sc 10 ∧ ∀ k : Nat, (k : Int) < x → ¬ V (sc + 4) k = a * 10 + b) (fun (o : Int × pm_M) => ∃ y, o = (y, V) ∧ ((y = -1 ∧ ∀ k : Nat, (k : Int) < V sc 10 → ¬ V (sc + 4) k = a * 10 + b) ∨ (¬ y = -1 ∧ ∃ k : Nat, (k : Int) < V sc 10 ∧ V (sc + 4) k = a * 10 + b))) (fun x => (V sc 10 - x).toNat) ?_ 0 ⟨Int.le_refl _, h0, fun j hj => by exact ow_66f_0 hj⟩
  rintro x ⟨x1, x2, x3⟩
  show (∃ s1, (if V sc 10 ≤ x then (.inr (-1, V) : Int ⊕ (Int × pm_M)) else if ¬ V (sc + 4) x.toNat = a * 10 + b then .inl (x + 1) else .inr (V (sc + 5) x.toNat, V)) = .inl s1 ∧ _) ∨ (∃ o, (if V sc 10 ≤ x then (.inr (-1, V) : Int ⊕ (Int × pm_M)) else if ¬ V (sc + 4) x.toNat = a * 10 + b then .inl (x + 1) else .inr (V (sc + 5) x.toNat, V)) = .inr o ∧ _)
  by_cases k1 : V sc 10 ≤ x
  · rw [if_pos k1]
    exact Or.inr ⟨_, rfl, -1, rfl, Or.inl ⟨rfl, fun j hj => x3 j (by exact ow_66f_1 k1 hj)⟩⟩
  · rw [if_neg k1]
    by_cases k2 : V (sc + 4) x.toNat = a * 10 + b
    · rw [if_neg (fun q => q k2)]
      have := hp x.toNat (by exact ow_66f_2 x1 k1)
      exact Or.inr ⟨_, rfl, _, rfl, Or.inr ⟨by exact ow_66f_3 this, x.toNat, by exact ow_66f_2 x1 k1, k2⟩⟩
    · rw [if_pos k2]
      refine Or.inl ⟨_, rfl, ⟨by exact ow_66f_4 x1, by exact ow_66f_5 k1, fun j hj => ?_⟩, by show (V sc 10 - (x + 1)).toNat < (V sc 10 - x).toNat; exact ow_66f_6 k1⟩
      by_cases k3 : (j : Int) < x
      · exact x3 j k3
      · rw [show j = x.toNat by exact ow_66f_7 hj k3]
        exact k2
set_option maxHeartbeats 2000000 in
theorem sl_learn {sc : Nat} {V W : pm_M} (hsc : sc = 45 ∨ sc = 51) (hT : sm_T V W) (hK : sm_K V W) (hS : sm_S sc V W) : ∃ y V1 W1, F_X6_readLearn sc V = (y, V1) ∧ F_X12_learnLine W = (y, W1) ∧ (y = 0 ∨ y = 1) ∧ sm_T V1 W1 ∧ sm_K V1 W1 ∧ (y = 1 → sm_S sc V1 W1 ∧ V 3 4 ≤ V1 3 2) := by
  have hm := hS.2.2.2.2
  have hm1 : V sc 10 = W 90 13 := hm.1
  have hc0 := hm.2.1
  have hc12 := hm.2.2.1
  have hr := F_X12_learnLine_eq W
  rw [F_X6_readLearn_eq]
  simp only [pf_let, pf_call] at hr ⊢
  by_cases h9 : W 90 13 = 12
  · rw [if_neg (fun q => q h9)] at hr
    rw [if_neg (show ¬ V sc 10 < 12 by exact ow_66f_8 hm1 h9)]
    exact ⟨0, V, W, rfl, hr, Or.inl rfl, hT, hK, fun q => absurd q (by decide)⟩
  rw [if_pos h9] at hr
  rw [if_pos (show V sc 10 < 12 by exact ow_66f_9 hm1 hc12 h9)]
  obtain ⟨c, hc⟩ : ∃ c, W 90 13 = c := ⟨_, rfl⟩
  rw [hc] at hr hm1 h9
  obtain ⟨B, hB, hr⟩ := pf_loop hr
  -- the voice's
  obtain ⟨V1, W1, c1, r1, c2, r2, t1, k1, p1⟩ := sm_nx hT hK
  have s1 := hS.st hsc (fun k a _ => c2 k a) (by rw [c2 69 (by decide)]) r2.g
  obtain ⟨a, f1, f2, f3⟩ := sm_find k1 s1.1
  rw [c1]
  simp only []
  rw [f1]
  simp only []
  have b0 := congrFun hB (0, W)
  simp only [] at b0
  rw [if_neg (show ¬ ((3 : Int) ≤ 0) by decide), r1] at b0
  simp only [] at b0
  rw [f2] at b0
  simp only [] at b0
  rw [pm_up_s] at b0
  by_cases ha : a = -1
  · rw [if_neg (fun q => q ha)] at b0 ⊢
    exact ⟨0, V1, _, rfl, hr.trans (pf_val_inr b0), Or.inl rfl, t1.up rfl rfl (pm_up_f (by decide)) (pm_up_c (by decide)), k1.up rfl rfl (pm_up_c (by decide)) (pm_up_c (by decide)) (pm_up_c (by decide)) (pm_up_c (by decide)), fun q => absurd q (by decide)⟩
  rw [if_pos ha] at b0 ⊢
  have ha2 : 0 ≤ a ∧ a < V1 sc 0 := by rcases f3 with f3 | f3; exact absurd f3 ha; exact f3
  obtain ⟨U1, hU1⟩ : ∃ X, X = pm_up W1 96 (3 * c + 0).toNat a := ⟨_, rfl⟩
  rw [← hU1] at b0
  have b1 : B (0, W) = .inl (0 + 1, U1) := by
    obtain ⟨B2, hB2, b0⟩ := pf_loop b0
    have i0 := congrFun hB2 0
    by_cases q : c ≤ 0
    · rw [if_pos q] at i0
      exact b0.trans (pf_val_inr i0)
    · rw [if_neg q, if_pos (show ¬ ((0 : Int) = 1) by decide)] at i0
      exact b0.trans (pf_val_inr i0)
  have hr := hr.trans (pf_val_inl b1)
  -- the face's
  have tU1 : sm_T V1 U1 := t1.up rfl rfl (by rw [hU1]; exact pm_up_f (by decide)) (by rw [hU1]; exact pm_up_c (by decide))
  have kU1 : sm_K V1 U1 := k1.up rfl rfl (by rw [hU1]; exact pm_up_c (by decide)) (by rw [hU1]; exact pm_up_c (by decide)) (by rw [hU1]; exact pm_up_c (by decide)) (by rw [hU1]; exact pm_up_c (by decide))
  obtain ⟨V2, W2, c3, r3, c4, r4, t2, k2, p2⟩ := sm_nx tU1 kU1
  have s12 : sm_S1 sc V2 W2 := by
    have h1 := s1.1
    unfold sm_S1 at h1 ⊢
    rw [c4 sc (by exact ow_66f_10 hsc), c4 (sc + 1) (by exact ow_66f_11 hsc), c4 (sc + 2) (by exact ow_66f_12 hsc), c4 (sc + 3) (by exact ow_66f_13 hsc), c4 70 (by decide), c4 71 (by decide), r4.1 92 (by decide), r4.1 93 (by decide), r4.1 94 (by decide), r4.2 6 (by decide) (by decide) (by decide) (by decide), hU1, pm_up_f (show (92 : Nat) ≠ 96 by decide), pm_up_f (show (93 : Nat) ≠ 96 by decide), pm_up_f (show (94 : Nat) ≠ 96 by decide), pm_up_f (show (90 : Nat) ≠ 96 by decide)]
    exact h1
  obtain ⟨b, g1, g2, g3⟩ := sm_find k2 s12
  rw [c3]
  simp only []
  rw [g1]
  simp only []
  have b0 := congrFun hB (0 + 1, U1)
  simp only [] at b0
  rw [if_neg (show ¬ ((3 : Int) ≤ 0 + 1) by decide), r3] at b0
  simp only [] at b0
  rw [g2] at b0
  simp only [] at b0
  rw [pm_up_s] at b0
  by_cases hb : b = -1
  · rw [if_neg (fun q => q hb)] at b0
    rw [if_pos hb]
    exact ⟨0, V2, _, rfl, hr.trans (pf_val_inr b0), Or.inl rfl, t2.up rfl rfl (pm_up_f (by decide)) (pm_up_c (by decide)), k2.up rfl rfl (pm_up_c (by decide)) (pm_up_c (by decide)) (pm_up_c (by decide)) (pm_up_c (by decide)), fun q => absurd q (by decide)⟩
  rw [if_pos hb] at b0
  rw [if_neg hb]
  have hb2 : 0 ≤ b ∧ b < V2 sc 0 := by rcases g3 with g3 | g3; exact absurd g3 hb; exact g3
  obtain ⟨U2, hU2⟩ : ∃ X, X = pm_up W2 96 (3 * c + (0 + 1)).toNat b := ⟨_, rfl⟩
  rw [← hU2] at b0
  -- couples of the class
  have eV2 : ∀ k, k ≠ 3 → V2 k = V k := fun k hk => by rw [c4 k hk, c2 k hk]
  have e10 : V2 sc 10 = V sc 10 := by rw [eV2 sc (by exact ow_66f_10 hsc)]
  have e4 : V2 (sc + 4) = V (sc + 4) := eV2 _ (by exact ow_66f_14)
  have e5 : V2 (sc + 5) = V (sc + 5) := eV2 _ (by exact ow_66f_15)
  have esc : V2 sc = V sc := eV2 sc (by exact ow_66f_10 hsc)
  have esc1 : V1 sc = V sc := c2 sc (by exact ow_66f_10 hsc)
  have n0 : (3 * c + 0).toNat = 3 * c.toNat := by exact ow_66f_16
  have n1 : (3 * c + (0 + 1)).toNat = 3 * c.toNat + 1 := by exact ow_66f_17 hc0 hm1 n0
  have e96 : ∀ i, U2 96 i = if i = 3 * c.toNat + 1 then b else if i = 3 * c.toNat then a else W 96 i := fun i => by
    rw [hU2, n1]
    show (if 96 = 96 then (if i = 3 * c.toNat + 1 then b else W2 96 i) else W2 96 i) = _
    rw [if_pos rfl, r4.1 96 (by decide), hU1, n0]
    show (if i = 3 * c.toNat + 1 then b else (if 96 = 96 then (if i = 3 * c.toNat then a else W1 96 i) else W1 96 i)) = _
    rw [if_pos rfl, r2.1 96 (by decide)]
  have hs9 : V sc 0 ≤ 9 := hS.1.2.2.1
  have hcp : ∀ k : Nat, (k : Int) < V sc 10 → (U2 96 (3 * (k : Int)).toNat = U2 96 (3 * c).toNat ∧ U2 96 (3 * (k : Int) + 1).toNat = U2 96 (3 * c + 1).toNat ↔ V2 (sc + 4) k = a * 10 + b) := by
    intro k hk
    have q := hm.2.2.2 k hk
    rw [show (3 * (k : Int)).toNat = 3 * k by exact ow_66f_18, show (3 * (k : Int) + 1).toNat = 3 * k + 1 by exact ow_66f_19, show (3 * c).toNat = 3 * c.toNat by exact ow_66f_20 hm1 n1 hk, show (3 * c + 1).toNat = 3 * c.toNat + 1 by exact ow_66f_21 hm1 n1 hk, e96, e96, e96, e96]
    rw [if_neg (show ¬ 3 * k = 3 * c.toNat + 1 by exact ow_66f_22 hm1 hk), if_neg (show ¬ 3 * k = 3 * c.toNat by exact ow_66f_23 hm1 hk), if_neg (show ¬ 3 * k + 1 = 3 * c.toNat + 1 by exact ow_66f_24 hm1 hk), if_neg (show ¬ 3 * k + 1 = 3 * c.toNat by exact ow_66f_25 hm1 hk), if_neg (show ¬ 3 * c.toNat = 3 * c.toNat + 1 by exact ow_66f_26), if_pos rfl, if_pos rfl, e4, q.1]
    have : b ≤ 8 := by rw [esc] at hb2; omega
    constructor
    · rintro ⟨w1, w2⟩
      exact ow_66f_27 w1 w2
    · intro w1
      constructor <;> omega
  obtain ⟨z, z1, z2⟩ := c_learnt (sc := sc) (V := V2) (a := a) (b := b) (by exact ow_66f_28 hc0 e10) (fun k hk => by
    rw [e10] at hk
    have q := hm.2.2.2 k hk
    rw [e5, q.2.1]
    exact q.2.2.2.2.2.2.1)
  rw [z1]
  simp only []
  obtain ⟨B2, hB2, b0⟩ := pf_loop b0
  have hB2x : ∀ x : Int, _ := fun x => congrFun hB2 x
  rcases z2 with ⟨z2, z3⟩ | ⟨z2, z3⟩
  rotate_left
  · -- told already
    rw [if_neg z2]
    obtain ⟨j, j1, j2⟩ := z3
    have hv : pf_val (.inr ((0 : Int), W)) B2 0 = .inr (0, U2) := by
      refine pf_val_ind2 (fun (x : Int) => 0 ≤ x ∧ x ≤ j) (fun (o : (Int × pm_M) ⊕ (Int × pm_M)) => o = .inr (0, U2)) (fun x => (c - x).toNat) ?_ 0 ⟨Int.le_refl _, by exact ow_66f_29⟩
      rintro x ⟨x1, x2⟩
      rw [hB2x x, if_neg (show ¬ c ≤ x by exact ow_66f_30 hm1 e10 j1 x2), if_neg (show ¬ ¬ ((0 : Int) + 1 = 1) from fun q => q (by decide))]
      have nx : ¬ x = j → (0 ≤ x + 1 ∧ x + 1 ≤ j) ∧ (c - (x + 1)).toNat < (c - x).toNat := fun hn => ⟨⟨by exact ow_66f_4 x1, by exact ow_66f_31 x2 hn⟩, by exact ow_66f_32 hm1 e10 j1 x2⟩
      by_cases q0 : x = j
      · have hh := (hcp j (by exact ow_66f_33 e10 j1)).mpr j2
        subst q0
        rw [if_neg (fun q => q hh.1), if_neg (fun q => q hh.2)]
        exact Or.inr ⟨_, rfl, rfl⟩
      · by_cases q1 : U2 96 (3 * x).toNat = U2 96 (3 * c).toNat
        · rw [if_neg (fun q => q q1)]
          by_cases q2 : U2 96 (3 * x + 1).toNat = U2 96 (3 * c + 1).toNat
          · rw [if_neg (fun q => q q2)]
            exact Or.inr ⟨_, rfl, rfl⟩
          · rw [if_pos q2]
            exact Or.inl ⟨_, rfl, nx q0⟩
        · rw [if_pos q1]
          exact Or.inl ⟨_, rfl, nx q0⟩
    exact ⟨0, V2, U2, rfl, hr.trans (pf_val_inr (b0.trans hv)), Or.inl rfl, t2.up rfl rfl (by rw [hU2]; exact pm_up_f (by decide)) (by rw [hU2]; exact pm_up_c (by decide)), k2.up rfl rfl (by rw [hU2]; exact pm_up_c (by decide)) (by rw [hU2]; exact pm_up_c (by decide)) (by rw [hU2]; exact pm_up_c (by decide)) (by rw [hU2]; exact pm_up_c (by decide)), fun q => absurd q (by decide)⟩
  rw [if_pos z2]
  have hv : pf_val (.inr ((0 : Int), W)) B2 0 = .inl (0 + 1 + 1, U2) := by
    refine pf_val_ind2 (fun (x : Int) => 0 ≤ x ∧ x ≤ c) (fun (o : (Int × pm_M) ⊕ (Int × pm_M)) => o = .inl (0 + 1 + 1, U2)) (fun x => (c - x).toNat) ?_ 0 ⟨Int.le_refl _, by exact ow_66f_34 hc0 hm1⟩
    rintro x ⟨x1, x2⟩
    rw [hB2x x]
    by_cases q0 : c ≤ x
    · rw [if_pos q0]
      exact Or.inr ⟨_, rfl, rfl⟩
    · rw [if_neg q0, if_neg (show ¬ ¬ ((0 : Int) + 1 = 1) from fun q => q (by decide))]
      have nx : (0 ≤ x + 1 ∧ x + 1 ≤ c) ∧ (c - (x + 1)).toNat < (c - x).toNat := ⟨⟨by exact ow_66f_4 x1, by exact ow_66f_5 q0⟩, by exact ow_66f_6 q0⟩
      by_cases q1 : U2 96 (3 * x).toNat = U2 96 (3 * c).toNat
      · rw [if_neg (fun q => q q1)]
        by_cases q2 : U2 96 (3 * x + 1).toNat = U2 96 (3 * c + 1).toNat
        · exfalso
          have hh := (hcp x.toNat (by exact ow_66f_35 hm1 x1 q0)).mp (by rw [Int.toNat_of_nonneg x1]; exact ⟨q1, q2⟩)
          exact z3 x.toNat (by exact ow_66f_36 hm1 e10 x1 q0) hh
        · rw [if_pos q2]
          exact Or.inl ⟨_, rfl, nx⟩
      · rw [if_pos q1]
        exact Or.inl ⟨_, rfl, nx⟩
  have hr := hr.trans (pf_val_inl (b0.trans hv))
  -- what is said
  have tU2 : sm_T V2 U2 := t2.up rfl rfl (by rw [hU2]; exact pm_up_f (by decide)) (by rw [hU2]; exact pm_up_c (by decide))
  have kU2 : sm_K V2 U2 := k2.up rfl rfl (by rw [hU2]; exact pm_up_c (by decide)) (by rw [hU2]; exact pm_up_c (by decide)) (by rw [hU2]; exact pm_up_c (by decide)) (by rw [hU2]; exact pm_up_c (by decide))
  obtain ⟨V3, W3, c5, r5, c6, r6, t3, k3, p3⟩ := sm_nx tU2 kU2
  have s13 : sm_S1 sc V3 W3 := by
    unfold sm_S1 at s12 ⊢
    rw [c6 sc (by exact ow_66f_10 hsc), c6 (sc + 1) (by exact ow_66f_11 hsc), c6 (sc + 2) (by exact ow_66f_12 hsc), c6 (sc + 3) (by exact ow_66f_13 hsc), c6 70 (by decide), c6 71 (by decide), r6.1 92 (by decide), r6.1 93 (by decide), r6.1 94 (by decide), r6.2 6 (by decide) (by decide) (by decide) (by decide), hU2, pm_up_f (show (92 : Nat) ≠ 96 by decide), pm_up_f (show (93 : Nat) ≠ 96 by decide), pm_up_f (show (94 : Nat) ≠ 96 by decide), pm_up_f (show (90 : Nat) ≠ 96 by decide)]
    exact s12
  obtain ⟨e, w1, w2, w3⟩ := sm_find k3 s13
  rw [c5]
  simp only []
  rw [w1]
  simp only []
  have b0 := congrFun hB (0 + 1 + 1, U2)
  simp only [] at b0
  rw [if_neg (show ¬ ((3 : Int) ≤ 0 + 1 + 1) by decide), r5] at b0
  simp only [] at b0
  rw [w2] at b0
  simp only [] at b0
  rw [pm_up_s] at b0
  by_cases he : e = -1
  · rw [if_neg (fun q => q he)] at b0 ⊢
    exact ⟨0, V3, _, rfl, hr.trans (pf_val_inr b0), Or.inl rfl, t3.up rfl rfl (pm_up_f (by decide)) (pm_up_c (by decide)), k3.up rfl rfl (pm_up_c (by decide)) (pm_up_c (by decide)) (pm_up_c (by decide)) (pm_up_c (by decide)), fun q => absurd q (by decide)⟩
  rw [if_pos he] at b0 ⊢
  have he2 : 0 ≤ e ∧ e < V3 sc 0 := by rcases w3 with w3 | w3; exact absurd w3 he; exact w3
  obtain ⟨U3, hU3⟩ : ∃ X, X = pm_up W3 96 (3 * c + (0 + 1 + 1)).toNat e := ⟨_, rfl⟩
  rw [← hU3] at b0
  have b1 : B (0 + 1 + 1, U2) = .inl (0 + 1 + 1 + 1, U3) := by
    obtain ⟨B3, hB3, b0⟩ := pf_loop b0
    have i0 := congrFun hB3 0
    by_cases q : c ≤ 0
    · rw [if_pos q] at i0
      exact b0.trans (pf_val_inr i0)
    · rw [if_neg q, if_pos (show ¬ ((0 : Int) + 1 + 1 = 1) by decide)] at i0
      exact b0.trans (pf_val_inr i0)
  have hr := hr.trans (pf_val_inl b1)
  -- the end
  have tU3 : sm_T V3 U3 := t3.up rfl rfl (by rw [hU3]; exact pm_up_f (by decide)) (by rw [hU3]; exact pm_up_c (by decide))
  have kU3 : sm_K V3 U3 := k3.up rfl rfl (by rw [hU3]; exact pm_up_c (by decide)) (by rw [hU3]; exact pm_up_c (by decide)) (by rw [hU3]; exact pm_up_c (by decide)) (by rw [hU3]; exact pm_up_c (by decide))
  have q3 : pm_up (pm_up (pm_up V3 (sc + 4) (V sc 10).toNat (a * 10 + b)) (sc + 5) (V sc 10).toNat e) sc 10 (V sc 10 + 1) 3 = V3 3 := by rcases hsc with rfl | rfl <;> simp [pm_up, pm_up_f]
  obtain ⟨V4, W4, c7, r7, c8, r8, t4, k4, p4⟩ := sm_nx (V := pm_up (pm_up (pm_up V3 (sc + 4) (V sc 10).toNat (a * 10 + b)) (sc + 5) (V sc 10).toNat e) sc 10 (V sc 10 + 1)) (W := U3) (tU3.up (by rcases hsc with rfl | rfl <;> simp [pm_up, pm_up_f]) (by rcases hsc with rfl | rfl <;> simp [pm_up, pm_up_f]) rfl rfl) (kU3.up (by rcases hsc with rfl | rfl <;> simp [pm_up, pm_up_f]) q3 rfl rfl rfl rfl)
  rw [q3] at p4
  rw [c7]
  simp only []
  have b0 := congrFun hB (0 + 1 + 1 + 1, U3)
  simp only [] at b0
  rw [if_pos (show ((3 : Int) ≤ 0 + 1 + 1 + 1) by decide), r7] at b0
  simp only [] at b0
  obtain ⟨y, V5, W5, d1, d2, y5, g5, h5, t5, k5, p5⟩ := sl_closes (sc := sc) (V := V4) (W := pm_up W4 90 13 (c + 1)) (t4.up rfl rfl (pm_up_f (by decide)) (pm_up_i (by decide))) (k4.up rfl rfl (pm_up_i (by decide)) (pm_up_i (by decide)) (pm_up_i (by decide)) (pm_up_i (by decide)))
  rw [d2] at b0
  simp only [] at b0
  rw [d1]
  have f1' := k1.ln
  have f2' := k2.ln
  have f3' := k3.ln
  refine ⟨y, V5, W5, rfl, hr.trans (pf_val_inr b0), y5, t5, k5, fun _ => ⟨sm_S.st (V := V4) (W := pm_up W4 90 13 (c + 1)) hsc ?_ (fun k a _ => g5 k a) (by rw [g5 69 (by decide)]) h5, by exact ow_66f_37 p1 p2 p3 p4 p5 f1' f2' f3'⟩⟩
  have g42 : tk_g9 U3 W4 := r8.g
  have eV3 : ∀ k, k ≠ 3 → V3 k = V k := fun k hk => by rw [c6 k hk, eV2 k hk]
  have hz := c8
  have gW : ∀ k, k ≠ 90 → k ≠ 96 → W4 k = W k := fun k h1 h2 => by rw [g42.1 k h1, hU3, pm_up_f h2, r6.1 k h1, hU2, pm_up_f h2, r4.1 k h1, hU1, pm_up_f h2, r2.1 k h1]
  have gF : ∀ i, i ≠ 2 → i ≠ 3 → i ≠ 4 → i ≠ 5 → W4 90 i = W 90 i := fun i h2 h3 h4 h5 => by rw [r8.2 i h2 h3 h4 h5, hU3, pm_up_c (by decide), r6.2 i h2 h3 h4 h5, hU2, pm_up_c (by decide), r4.2 i h2 h3 h4 h5, hU1, pm_up_c (by decide), r2.2 i h2 h3 h4 h5]
  obtain ⟨s31, s32, s33, s34, s35⟩ := hS
  refine ⟨?_, ?_, ?_, ?_, ?_⟩
  · unfold sm_S1 at s31 ⊢
    rw [hz sc (by exact ow_66f_10 hsc), hz (sc + 1) (by exact ow_66f_11 hsc), hz (sc + 2) (by exact ow_66f_12 hsc), hz (sc + 3) (by exact ow_66f_13 hsc), hz 70 (by decide), hz 71 (by decide), pm_up_f (show (92 : Nat) ≠ 90 by decide), pm_up_f (show (93 : Nat) ≠ 90 by decide), pm_up_f (show (94 : Nat) ≠ 90 by decide), gW 92 (by decide) (by decide), gW 93 (by decide) (by decide), gW 94 (by decide) (by decide), pm_up_i (show (6 : Nat) ≠ 13 by decide), gF 6 (by decide) (by decide) (by decide) (by decide)]
    have a0 : pm_up (pm_up (pm_up V3 (sc + 4) (V sc 10).toNat (a * 10 + b)) (sc + 5) (V sc 10).toNat e) sc 10 (V sc 10 + 1) sc 0 = V sc 0 := by
      have := eV3 sc (by exact ow_66f_10 hsc)
      rcases hsc with rfl | rfl <;> simp [pm_up, pm_up_f, this]
    have a1 : pm_up (pm_up (pm_up V3 (sc + 4) (V sc 10).toNat (a * 10 + b)) (sc + 5) (V sc 10).toNat e) sc 10 (V sc 10 + 1) (sc + 1) = V (sc + 1) := by
      rw [← eV3 (sc + 1) (by exact ow_66f_11 hsc)]
      rcases hsc with rfl | rfl <;> simp [pm_up, pm_up_f]
    have a2 : pm_up (pm_up (pm_up V3 (sc + 4) (V sc 10).toNat (a * 10 + b)) (sc + 5) (V sc 10).toNat e) sc 10 (V sc 10 + 1) (sc + 2) = V (sc + 2) := by
      rw [← eV3 (sc + 2) (by exact ow_66f_12 hsc)]
      rcases hsc with rfl | rfl <;> simp [pm_up, pm_up_f]
    have a3 : pm_up (pm_up (pm_up V3 (sc + 4) (V sc 10).toNat (a * 10 + b)) (sc + 5) (V sc 10).toNat e) sc 10 (V sc 10 + 1) (sc + 3) = V (sc + 3) := by
      rw [← eV3 (sc + 3) (by exact ow_66f_13 hsc)]
      rcases hsc with rfl | rfl <;> simp [pm_up, pm_up_f]
    have a70 : pm_up (pm_up (pm_up V3 (sc + 4) (V sc 10).toNat (a * 10 + b)) (sc + 5) (V sc 10).toNat e) sc 10 (V sc 10 + 1) 70 = V 70 := by
      rw [← eV3 70 (by decide)]
      rcases hsc with rfl | rfl <;> simp [pm_up, pm_up_f]
    have a71 : pm_up (pm_up (pm_up V3 (sc + 4) (V sc 10).toNat (a * 10 + b)) (sc + 5) (V sc 10).toNat e) sc 10 (V sc 10 + 1) 71 = V 71 := by
      rw [← eV3 71 (by decide)]
      rcases hsc with rfl | rfl <;> simp [pm_up, pm_up_f]
    rw [a0, a1, a2, a3, a70, a71]
    exact s31
  · unfold sm_S2 at s32 ⊢
    rw [hz sc (by exact ow_66f_10 hsc), pm_up_f (show (95 : Nat) ≠ 90 by decide), gW 95 (by decide) (by decide)]
    have := eV3 sc (by exact ow_66f_10 hsc)
    rcases hsc with rfl | rfl <;> simpa [pm_up, pm_up_f, this] using s32
  · unfold sm_S3 at s33 ⊢
    rw [hz sc (by exact ow_66f_10 hsc), pm_up_f (show (95 : Nat) ≠ 90 by decide), gW 95 (by decide) (by decide)]
    have := eV3 sc (by exact ow_66f_10 hsc)
    rcases hsc with rfl | rfl <;> simpa [pm_up, pm_up_f, this] using s33
  · unfold sm_S4 at s34 ⊢
    rw [hz sc (by exact ow_66f_10 hsc), hz 69 (by decide), pm_up_i (show (11 : Nat) ≠ 13 by decide), pm_up_i (show (12 : Nat) ≠ 13 by decide), gF 11 (by decide) (by decide) (by decide) (by decide), gF 12 (by decide) (by decide) (by decide) (by decide)]
    have := eV3 sc (by exact ow_66f_10 hsc)
    have h69 := eV3 69 (by decide)
    rcases hsc with rfl | rfl <;> simpa [pm_up, pm_up_f, this, h69] using s34
  · obtain ⟨p1', p2', p3', p4'⟩ := s35
    unfold sm_S5
    rw [hz sc (by exact ow_66f_10 hsc), hz (sc + 4) (by exact ow_66f_14), hz (sc + 5) (by exact ow_66f_15), pm_up_s, pm_up_s, pm_up_f (show (96 : Nat) ≠ 90 by decide)]
    have n2 : (3 * c + (0 + 1 + 1)).toNat = 3 * c.toNat + 2 := by exact ow_66f_38 hc0 hm1 n0 n1
    have f96 : ∀ i, W4 96 i = if i = 3 * c.toNat + 2 then e else U2 96 i := fun i => by
      rw [g42.1 96 (by decide), hU3, n2]
      show (if 96 = 96 then (if i = 3 * c.toNat + 2 then e else W3 96 i) else W3 96 i) = _
      rw [if_pos rfl, r6.1 96 (by decide)]
    have a0 : pm_up (pm_up (pm_up V3 (sc + 4) (V sc 10).toNat (a * 10 + b)) (sc + 5) (V sc 10).toNat e) sc 10 (V sc 10 + 1) sc 0 = V sc 0 := by
      have := eV3 sc (by exact ow_66f_10 hsc)
      rcases hsc with rfl | rfl <;> simp [pm_up, pm_up_f, this]
    have a4 : ∀ k, pm_up (pm_up (pm_up V3 (sc + 4) (V sc 10).toNat (a * 10 + b)) (sc + 5) (V sc 10).toNat e) sc 10 (V sc 10 + 1) (sc + 4) k = if k = (V sc 10).toNat then a * 10 + b else V (sc + 4) k := fun k => by
      rw [← eV3 (sc + 4) (by exact ow_66f_14)]
      rcases hsc with rfl | rfl <;> simp [pm_up, pm_up_f]
    have a5 : ∀ k, pm_up (pm_up (pm_up V3 (sc + 4) (V sc 10).toNat (a * 10 + b)) (sc + 5) (V sc 10).toNat e) sc 10 (V sc 10 + 1) (sc + 5) k = if k = (V sc 10).toNat then e else V (sc + 5) k := fun k => by
      rw [← eV3 (sc + 5) (by exact ow_66f_15)]
      rcases hsc with rfl | rfl <;> simp [pm_up, pm_up_f]
    rw [a0]
    have h1sc : V1 sc 0 = V sc 0 := by rw [esc1]
    have h2sc : V2 sc 0 = V sc 0 := by rw [esc]
    have h3sc : V3 sc 0 = V sc 0 := by rw [eV3 sc (by exact ow_66f_10 hsc)]
    refine ⟨by exact ow_66f_39 hm1, by exact ow_66f_4 hc0, by exact ow_66f_40 hc12 h9 hm1, fun k hk => ?_⟩
    rw [a4, a5, f96, f96, f96, e96, e96, e96]
    have ec : c.toNat = (V sc 10).toNat := by exact ow_66f_41 hm1 n0 n2
    rw [ec]
    by_cases hq : k = (V sc 10).toNat
    · subst hq
      rw [if_pos rfl, if_pos rfl, if_pos rfl, if_neg (show ¬ 3 * (V sc 10).toNat = 3 * (V sc 10).toNat + 2 by exact ow_66f_42), if_neg (show ¬ 3 * (V sc 10).toNat = 3 * (V sc 10).toNat + 1 by exact ow_66f_26), if_pos rfl, if_neg (show ¬ 3 * (V sc 10).toNat + 1 = 3 * (V sc 10).toNat + 2 by exact ow_66f_43), if_pos rfl]
      exact ⟨rfl, rfl, ha2.1, by exact ow_66f_44 ha2 h1sc, hb2.1, by exact ow_66f_45 ha2 g3 h1sc h2sc, he2.1, by exact ow_66f_44 he2 h3sc⟩
    · rw [if_neg hq, if_neg hq, if_neg (show ¬ 3 * k = 3 * (V sc 10).toNat + 2 by exact ow_66f_46 hk), if_neg (show ¬ 3 * k = 3 * (V sc 10).toNat + 1 by exact ow_66f_47 hk), if_neg (show ¬ 3 * k = 3 * (V sc 10).toNat by exact ow_66f_48 hq), if_neg (show ¬ 3 * k + 1 = 3 * (V sc 10).toNat + 2 by exact ow_66f_49 hk), if_neg (show ¬ 3 * k + 1 = 3 * (V sc 10).toNat + 1 by exact ow_66f_50 hq), if_neg (show ¬ 3 * k + 1 = 3 * (V sc 10).toNat by exact ow_66f_51 hq), if_neg (show ¬ 3 * k + 2 = 3 * (V sc 10).toNat + 2 by exact ow_66f_52 hq), if_neg (show ¬ 3 * k + 2 = 3 * (V sc 10).toNat + 1 by exact ow_66f_53 hq), if_neg (show ¬ 3 * k + 2 = 3 * (V sc 10).toNat by exact ow_66f_54 hq)]
      exact p4' k (by exact ow_66f_55 hm1 n0 n1 hk ec hq)
