theorem ow_66e_0 {a1 a2 a3 a4 : Int} {k0 : Nat} (h0 : (((k0 : Nat) : Int) < (0 : Int))) : ¬(((a1 = (a2 : Int)) ∧ (a3 = (a4 : Int)))) := by omega
theorem ow_66e_1 {a0 : Int} (h0 : (0 ≤ (a0 : Int))) : (0 ≤ ((a0 + 1) : Int)) := by omega
theorem ow_66e_2 {a0 a1 : Int} (h0 : ¬((a0 ≤ (a1 : Int)))) : ((a1 + 1) ≤ (a0 : Int)) := by omega
theorem ow_66e_3 {a0 a1 : Int} (h0 : ¬((a0 ≤ (a1 : Int)))) : (((a0 - (a1 + 1)) : Int).toNat < (((a0 - a1) : Int).toNat : Nat)) := by omega
theorem ow_66e_4 {a1 : Int} {k0 : Nat} (h0 : (((k0 : Nat) : Int) < ((a1 + 1) : Int))) (h1 : ¬((((k0 : Nat) : Int) < (a1 : Int)))) : (k0 = ((a1 : Int).toNat : Nat)) := by omega
theorem ow_66e_5 {a0 a1 : Int} {k2 : Nat} (h0 : (a0 ≤ (a1 : Int))) (h1 : (((k2 : Nat) : Int) < (a0 : Int))) : (((k2 : Nat) : Int) < (a1 : Int)) := by omega
theorem ow_66e_6 {a0 a1 : Int} (h0 : (0 ≤ (a0 : Int))) (h1 : ¬((a1 ≤ (a0 : Int)))) : ((((a0 : Int).toNat : Nat) : Int) < (a1 : Int)) := by omega
theorem ow_66e_7 {a0 a1 : Int} (h0 : (a0 = (a1 : Int))) (h1 : (a1 = (9 : Int))) : ¬((a0 < (9 : Int))) := by omega
theorem ow_66e_8 {a0 : Int} (h0 : ((a0 = (0 : Int)) ∨ (a0 = (1 : Int)))) (h1 : ¬((a0 = (0 : Int)))) : (a0 = (1 : Int)) := by omega
theorem ow_66e_9 {k0 : Nat} (h0 : ((k0 = (45 : Nat)) ∨ (k0 = (51 : Nat)))) : (k0 ≠ (3 : Nat)) := by omega
theorem ow_66e_10 {k0 : Nat} (h0 : ((k0 = (45 : Nat)) ∨ (k0 = (51 : Nat)))) : (k0 ≠ (70 : Nat)) := by omega
theorem ow_66e_11 {k0 : Nat} (h0 : ((k0 = (45 : Nat)) ∨ (k0 = (51 : Nat)))) : ((k0 + 1) ≠ (3 : Nat)) := by omega
theorem ow_66e_12 {k0 : Nat} (h0 : ((k0 = (45 : Nat)) ∨ (k0 = (51 : Nat)))) : ((k0 + 1) ≠ (70 : Nat)) := by omega
theorem ow_66e_13 {k0 : Nat} (h0 : ((k0 = (45 : Nat)) ∨ (k0 = (51 : Nat)))) : ((k0 + 2) ≠ (3 : Nat)) := by omega
theorem ow_66e_14 {k0 : Nat} (h0 : ((k0 = (45 : Nat)) ∨ (k0 = (51 : Nat)))) : ((k0 + 2) ≠ (70 : Nat)) := by omega
theorem ow_66e_15 {a0 a1 : Int} {k2 : Nat} (h0 : (a0 = (a1 : Int))) (h1 : (((k2 : Nat) : Int) < (a1 : Int))) : (((k2 : Nat) : Int) < (a0 : Int)) := by omega
theorem ow_66e_16 {k0 : Nat} : (((3 * ((k0 : Nat) : Int)) : Int).toNat = ((3 * k0) : Nat)) := by omega
theorem ow_66e_17 {k0 : Nat} : ((((3 * ((k0 : Nat) : Int)) + 1) : Int).toNat = (((3 * k0) + 1) : Nat)) := by omega
theorem ow_66e_18 {a0 a1 : Int} (h0 : (0 ≤ (a0 : Int))) (h1 : ¬((a1 ≤ (a0 : Int)))) (h2 : (((0 ≤ ((a0 + 1) : Int)) ∧ ((a0 + 1) ≤ (a1 : Int))) ∧ (((a1 - (a0 + 1)) : Int).toNat < (((a1 - a0) : Int).toNat : Nat)))) : ((((a0 : Int).toNat : Nat) : Int) < (a1 : Int)) := by omega
theorem ow_66e_19 {a0 a1 a2 a3 : Int} (h0 : (a0 = (a1 : Int))) (h1 : (a2 = (a0 : Int))) (h2 : (0 ≤ (a3 : Int))) (h3 : ¬((a1 ≤ (a3 : Int)))) (h4 : (((0 ≤ ((a3 + 1) : Int)) ∧ ((a3 + 1) ≤ (a1 : Int))) ∧ (((a1 - (a3 + 1)) : Int).toNat < (((a1 - a3) : Int).toNat : Nat)))) : ((((a3 : Int).toNat : Nat) : Int) < (a2 : Int)) := by omega
theorem ow_66e_20 {a0 a1 a2 a3 a4 a5 a6 a7 a8 a9 a10 a11 a12 a13 a14 a15 a16 a17 : Int} (h0 : (a0 ≤ (a1 : Int))) (h1 : (a2 ≤ (a3 : Int))) (h2 : ((a4 = (a5 : Int)) ∧ ((a6 = (a7 : Int)) ∧ ((0 ≤ (a6 : Int)) ∧ ((a6 ≤ (a8 : Int)) ∧ ((0 ≤ (a4 : Int)) ∧ (a4 ≤ (a6 : Int)))))))) (h3 : (a6 ≤ (a9 : Int))) (h4 : (a9 ≤ (a10 : Int))) (h5 : ((a1 = (a11 : Int)) ∧ ((a2 = (a12 : Int)) ∧ ((0 ≤ (a2 : Int)) ∧ ((a2 ≤ (a13 : Int)) ∧ ((0 ≤ (a1 : Int)) ∧ (a1 ≤ (a2 : Int)))))))) (h6 : ((a3 = (a14 : Int)) ∧ ((a15 = (a16 : Int)) ∧ ((0 ≤ (a15 : Int)) ∧ ((a15 ≤ (a17 : Int)) ∧ ((0 ≤ (a3 : Int)) ∧ (a3 ≤ (a15 : Int)))))))) (h7 : (a15 ≤ (a4 : Int))) : (a0 ≤ (a10 : Int)) := by omega
theorem ow_66e_21 {k0 : Nat} : ((k0 + 4) ≠ (3 : Nat)) := by omega
theorem ow_66e_22 {k0 : Nat} (h0 : ((k0 = (45 : Nat)) ∨ (k0 = (51 : Nat)))) : ((k0 + 4) ≠ (70 : Nat)) := by omega
theorem ow_66e_23 {k0 : Nat} : ((k0 + 5) ≠ (3 : Nat)) := by omega
theorem ow_66e_24 {k0 : Nat} (h0 : ((k0 = (45 : Nat)) ∨ (k0 = (51 : Nat)))) : ((k0 + 5) ≠ (70 : Nat)) := by omega
theorem ow_66e_25 {k0 : Nat} (h0 : ((k0 = (45 : Nat)) ∨ (k0 = (51 : Nat)))) : ((k0 + 3) ≠ (3 : Nat)) := by omega
theorem ow_66e_26 {a0 : Int} : (((3 * a0) : Int).toNat = ((3 * (a0 : Int).toNat) : Nat)) := by omega
theorem ow_66e_27 {a0 : Int} (h0 : (((3 * a0) : Int).toNat = ((3 * (a0 : Int).toNat) : Nat))) (h1 : ((((3 * a0) + 1) : Int).toNat = (((3 * (a0 : Int).toNat) + 1) : Nat))) : ((((3 * a0) + 2) : Int).toNat = (((3 * (a0 : Int).toNat) + 2) : Nat)) := by omega
theorem ow_66e_28 {a0 a1 : Int} (h0 : (a0 = (a1 : Int))) : ((a0 + 1) = ((a1 + 1) : Int)) := by omega
theorem ow_66e_29 {a0 a1 : Int} (h0 : (a0 = (a1 : Int))) (h1 : (((3 * a1) : Int).toNat = ((3 * (a1 : Int).toNat) : Nat))) (h2 : ((((3 * a1) + 1) : Int).toNat = (((3 * (a1 : Int).toNat) + 1) : Nat))) : (0 ≤ ((a0 + 1) : Int)) := by omega
theorem ow_66e_30 {a0 a1 : Int} (h0 : (a0 = (a1 : Int))) (h1 : (((3 * a1) : Int).toNat = ((3 * (a1 : Int).toNat) : Nat))) (h2 : ((((3 * a1) + 2) : Int).toNat = (((3 * (a1 : Int).toNat) + 2) : Nat))) : ((a1 : Int).toNat = ((a0 : Int).toNat : Nat)) := by omega
theorem ow_66e_31 {a0 : Int} : ¬(((3 * (a0 : Int).toNat) = (((3 * (a0 : Int).toNat) + 2) : Nat))) := by omega
theorem ow_66e_32 {a0 : Int} : ¬(((3 * (a0 : Int).toNat) = (((3 * (a0 : Int).toNat) + 1) : Nat))) := by omega
theorem ow_66e_33 {a0 : Int} : ¬((((3 * (a0 : Int).toNat) + 1) = (((3 * (a0 : Int).toNat) + 2) : Nat))) := by omega
theorem ow_66e_34 {a1 : Int} {k0 : Nat} (h0 : (((k0 : Nat) : Int) < ((a1 + 1) : Int))) : ¬(((3 * k0) = (((3 * (a1 : Int).toNat) + 2) : Nat))) := by omega
theorem ow_66e_35 {a1 : Int} {k0 : Nat} (h0 : (((k0 : Nat) : Int) < ((a1 + 1) : Int))) : ¬(((3 * k0) = (((3 * (a1 : Int).toNat) + 1) : Nat))) := by omega
theorem ow_66e_36 {a1 : Int} {k0 : Nat} (h0 : ¬((k0 = ((a1 : Int).toNat : Nat)))) : ¬(((3 * k0) = ((3 * (a1 : Int).toNat) : Nat))) := by omega
theorem ow_66e_37 {a1 : Int} {k0 : Nat} (h0 : (((k0 : Nat) : Int) < ((a1 + 1) : Int))) : ¬((((3 * k0) + 1) = (((3 * (a1 : Int).toNat) + 2) : Nat))) := by omega
theorem ow_66e_38 {a1 : Int} {k0 : Nat} (h0 : ¬((k0 = ((a1 : Int).toNat : Nat)))) : ¬((((3 * k0) + 1) = (((3 * (a1 : Int).toNat) + 1) : Nat))) := by omega
theorem ow_66e_39 {a1 : Int} {k0 : Nat} (h0 : ¬((k0 = ((a1 : Int).toNat : Nat)))) : ¬((((3 * k0) + 1) = ((3 * (a1 : Int).toNat) : Nat))) := by omega
theorem ow_66e_40 {a1 : Int} {k0 : Nat} (h0 : ¬((k0 = ((a1 : Int).toNat : Nat)))) : ¬((((3 * k0) + 2) = (((3 * (a1 : Int).toNat) + 2) : Nat))) := by omega
theorem ow_66e_41 {a1 : Int} {k0 : Nat} (h0 : ¬((k0 = ((a1 : Int).toNat : Nat)))) : ¬((((3 * k0) + 2) = (((3 * (a1 : Int).toNat) + 1) : Nat))) := by omega
theorem ow_66e_42 {a1 : Int} {k0 : Nat} (h0 : ¬((k0 = ((a1 : Int).toNat : Nat)))) : ¬((((3 * k0) + 2) = ((3 * (a1 : Int).toNat) : Nat))) := by omega
theorem ow_66e_43 {a0 a1 : Int} {k2 : Nat} (h0 : (a0 = (a1 : Int))) (h1 : (((3 * a1) : Int).toNat = ((3 * (a1 : Int).toNat) : Nat))) (h2 : ((((3 * a1) + 1) : Int).toNat = (((3 * (a1 : Int).toNat) + 1) : Nat))) (h3 : (((k2 : Nat) : Int) < ((a0 + 1) : Int))) (h4 : ((a1 : Int).toNat = ((a0 : Int).toNat : Nat))) (h5 : ¬((k2 = ((a0 : Int).toNat : Nat)))) : (((k2 : Nat) : Int) < (a0 : Int)) := by omega
theorem ow_66e_44 {k0 : Nat} (h0 : ((k0 = (45 : Nat)) ∨ (k0 = (51 : Nat)))) : ((k0 + 3) ≠ (70 : Nat)) := by omega
theorem ow_66e_45 {a0 a1 a2 a3 a4 a5 : Int} (h0 : ((a0 = (((a1 * 10) + a2) : Int)) ∧ ((a3 = (a4 : Int)) ∧ ((0 ≤ (a1 : Int)) ∧ ((a1 < (a5 : Int)) ∧ ((0 ≤ (a2 : Int)) ∧ ((a2 < (a5 : Int)) ∧ ((0 ≤ (a4 : Int)) ∧ (a4 < (a5 : Int)))))))))) : (a1 < ((a5 + 1) : Int)) := by omega
theorem ow_66e_46 {a0 a1 a2 a3 a4 a5 : Int} (h0 : ((a0 = (((a1 * 10) + a2) : Int)) ∧ ((a3 = (a4 : Int)) ∧ ((0 ≤ (a1 : Int)) ∧ ((a1 < (a5 : Int)) ∧ ((0 ≤ (a2 : Int)) ∧ ((a2 < (a5 : Int)) ∧ ((0 ≤ (a4 : Int)) ∧ (a4 < (a5 : Int)))))))))) : (a2 < ((a5 + 1) : Int)) := by omega
theorem ow_66e_47 {a0 a1 a2 a3 a4 a5 : Int} (h0 : ((a0 = (((a1 * 10) + a2) : Int)) ∧ ((a3 = (a4 : Int)) ∧ ((0 ≤ (a1 : Int)) ∧ ((a1 < (a5 : Int)) ∧ ((0 ≤ (a2 : Int)) ∧ ((a2 < (a5 : Int)) ∧ ((0 ≤ (a4 : Int)) ∧ (a4 < (a5 : Int)))))))))) : (a4 < ((a5 + 1) : Int)) := by omega
theorem ow_66e_48 {a0 a1 a2 : Int} {k3 : Nat} (h0 : (a0 = (a1 : Int))) (h1 : (a2 = (a0 : Int))) (h2 : (((k3 : Nat) : Int) < (a2 : Int))) : (0 ≤ (a1 : Int)) := by omega
theorem ow_66e_49 {k0 : Nat} : (0 ≤ (((k0 : Nat) : Int) : Int)) := by omega
theorem ow_66e_50 {a0 a1 a2 a4 : Int} {k3 : Nat} (h0 : (a0 = (a1 : Int))) (h1 : (a2 = (a0 : Int))) (h2 : (((k3 : Nat) : Int) < (a2 : Int))) (h3 : (a4 ≤ (((k3 : Nat) : Int) : Int))) : ¬((a1 ≤ (a4 : Int))) := by omega
theorem ow_66e_51 {a0 : Int} {k1 : Nat} (h0 : (a0 ≤ (((k1 : Nat) : Int) : Int))) (h1 : ¬((a0 = (((k1 : Nat) : Int) : Int)))) : ((a0 + 1) ≤ (((k1 : Nat) : Int) : Int)) := by omega
theorem ow_66e_52 {a0 a1 : Int} {k2 : Nat} (h0 : ¬((a0 ≤ (a1 : Int)))) (h1 : (a1 = (((k2 : Nat) : Int) : Int))) : (((k2 : Nat) : Int) < (a0 : Int)) := by omega
/-- a number that stands: the token behind it, whatever the class has told meanwhile -/
theorem sm_num2 {V W W1 Vm : pm_M} {a b : Int} (hT : sm_T V W) (hK : sm_K V W) (h : F_X12_number a b W = (1, W1)) (e1 : Vm 1 = V 1) (e2 : Vm 2 = V 2) (e3 : Vm 3 = V 3) : ∃ V1, F_X9_step Vm = (0, V1) ∧ (∀ k, k ≠ 3 → V1 k = Vm k) ∧ sm_T V1 W1 ∧ sm_K V1 W1 ∧ V 3 4 ≤ V1 3 2 := by
  rw [F_X12_number_eq] at h
  simp only [pf_let, pf_call, pm_cmp_lt0, pm_cmp_le0] at h
  by_cases h5 : W 90 3 = 2
  · rw [if_neg (fun q => q h5)] at h
    by_cases h6 : W 90 5 < a
    · rw [if_pos h6] at h
      exact absurd (Prod.mk.inj h).1 (by decide)
    · rw [if_neg h6] at h
      by_cases h7 : W 90 5 ≤ b
      · rw [if_pos h7] at h
        obtain ⟨Z1, Z2, d1, d2, d3, d4, d5, d6, d7⟩ := sm_nx (V := Vm) (W := pm_up W 90 37 (W 90 5)) (hT.up e1 e2 (pm_up_f (by decide)) (pm_up_i (by decide))) (hK.up e1 e3 (pm_up_i (by decide)) (pm_up_i (by decide)) (pm_up_i (by decide)) (pm_up_i (by decide)))
        rw [d2] at h
        have e := (Prod.mk.inj h).2
        subst e
        exact ⟨Z1, d1, d3, d5, d6, by rw [← e3]; exact d7⟩
      · rw [if_neg h7] at h
        exact absurd (Prod.mk.inj h).1 (by decide)
  · rw [if_pos h5] at h
    exact absurd (Prod.mk.inj h).1 (by decide)
theorem c_taken {sc : Nat} {V : pm_M} {a b : Int} (h0 : 0 ≤ V sc 0) : ∃ y, F_X5_isTaken sc a b V = (y, V) ∧ ((y = 0 ∧ ∀ j : Nat, (j : Int) < V sc 0 → ¬ (V (sc + 1) j = a ∧ V (sc + 2) j = b)) ∨ (y = 1 ∧ ∃ j : Nat, (j : Int) < V sc 0 ∧ V (sc + 1) j = a ∧ V (sc + 2) j = b)) := by
  rw [F_X5_isTaken_eq]
  simp only [pf_let]
  refine pf_val_ind2 (fun (x : Int) => 0 ≤ x ∧ x ≤ V sc 0 ∧ ∀ j : Nat, (j : Int) < x → ¬ (V (sc + 1) j = a ∧ V (sc + 2) j = b)) (fun (o : Int × pm_M) => ∃ y, o = (y, V) ∧ ((y = 0 ∧ ∀ j : Nat, (j : Int) < V sc 0 → ¬ (V (sc + 1) j = a ∧ V (sc + 2) j = b)) ∨ (y = 1 ∧ ∃ j : Nat, (j : Int) < V sc 0 ∧ V (sc + 1) j = a ∧ V (sc + 2) j = b))) (fun x => (V sc 0 - x).toNat) ?_ 0 ⟨Int.le_refl _, h0, fun j hj => by exact ow_66e_0 hj⟩
  rintro x ⟨x1, x2, x3⟩
  have nx : ¬ (V (sc + 1) x.toNat = a ∧ V (sc + 2) x.toNat = b) → ¬ V sc 0 ≤ x → (0 ≤ x + 1 ∧ x + 1 ≤ V sc 0 ∧ ∀ j : Nat, (j : Int) < x + 1 → ¬ (V (sc + 1) j = a ∧ V (sc + 2) j = b)) ∧ (V sc 0 - (x + 1)).toNat < (V sc 0 - x).toNat := by
    intro hn hx
    refine ⟨⟨by exact ow_66e_1 x1, by exact ow_66e_2 hx, fun j hj => ?_⟩, by exact ow_66e_3 hx⟩
    by_cases k3 : (j : Int) < x
    · exact x3 j k3
    · rw [show j = x.toNat by exact ow_66e_4 hj k3]
      exact hn
  show (∃ s1, (if V sc 0 ≤ x then (.inr (0, V) : Int ⊕ (Int × pm_M)) else if ¬ V (sc + 1) x.toNat = a then .inl (x + 1) else if ¬ V (sc + 2) x.toNat = b then .inl (x + 1) else .inr (1, V)) = .inl s1 ∧ _) ∨ (∃ o, (if V sc 0 ≤ x then (.inr (0, V) : Int ⊕ (Int × pm_M)) else if ¬ V (sc + 1) x.toNat = a then .inl (x + 1) else if ¬ V (sc + 2) x.toNat = b then .inl (x + 1) else .inr (1, V)) = .inr o ∧ _)
  by_cases k1 : V sc 0 ≤ x
  · rw [if_pos k1]
    exact Or.inr ⟨_, rfl, 0, rfl, Or.inl ⟨rfl, fun j hj => x3 j (by exact ow_66e_5 k1 hj)⟩⟩
  · rw [if_neg k1]
    by_cases k2 : V (sc + 1) x.toNat = a
    · rw [if_neg (fun q => q k2)]
      by_cases k3 : V (sc + 2) x.toNat = b
      · rw [if_neg (fun q => q k3)]
        exact Or.inr ⟨_, rfl, 1, rfl, Or.inr ⟨rfl, x.toNat, by exact ow_66e_6 x1 k1, k2, k3⟩⟩
      · rw [if_pos k3]
        exact Or.inl ⟨_, rfl, nx (fun q => k3 q.2) k1⟩
    · rw [if_pos k2]
      exact Or.inl ⟨_, rfl, nx (fun q => k2 q.1) k1⟩
set_option maxHeartbeats 2000000 in
theorem sl_sound {sc : Nat} {V W : pm_M} (hsc : sc = 45 ∨ sc = 51) (hT : sm_T V W) (hK : sm_K V W) (hS : sm_S sc V W) : ∃ y V1 W1, F_X6_readSound sc V = (y, V1) ∧ F_X12_soundLine W = (y, W1) ∧ (y = 0 ∨ y = 1) ∧ sm_T V1 W1 ∧ sm_K V1 W1 ∧ (y = 1 → sm_S sc V1 W1 ∧ V 3 4 ≤ V1 3 2) := by
  obtain ⟨V1, W1, c1, r1, c2, r2, t1, k1, p1⟩ := sm_nx hT hK
  have s1 := hS.st hsc (fun k a _ => c2 k a) (by rw [c2 69 (by decide)]) r2.g
  have hm := hS.1
  have hm1 : V sc 0 = W 90 6 := hm.1
  have hr := F_X12_soundLine_eq W
  rw [F_X6_readSound_eq]
  simp only [pf_let, pf_call] at hr ⊢
  have hb := hm.2
  by_cases h9 : W 90 6 = 9
  · rw [if_neg (fun q => q h9)] at hr
    rw [if_neg (show ¬ V sc 0 < 9 by exact ow_66e_7 hm1 h9)]
    exact ⟨0, V, W, rfl, hr, Or.inl rfl, hT, hK, fun q => absurd q (by decide)⟩
  rw [if_pos h9] at hr
  rw [if_pos (show V sc 0 < 9 by omega)]
  rw [r1] at hr
  rw [c1]
  simp only [] at hr ⊢
  obtain ⟨y, n1, n2, n3, n4⟩ := sm_name k1
  rw [n2] at hr
  rw [n1]
  simp only [] at hr ⊢
  by_cases y0 : y = 0
  · rw [if_pos y0] at hr ⊢
    exact ⟨0, V1, W1, rfl, hr, Or.inl rfl, t1, k1, fun q => absurd q (by decide)⟩
  rw [if_neg y0] at hr ⊢
  have hv : V1 3 3 = W1 90 5 := n4 (by exact ow_66e_8 n3 y0)
  obtain ⟨r, f1, f2, f3⟩ := sm_find k1 s1.1
  rw [f2] at hr
  rw [f1]
  simp only [] at hr ⊢
  by_cases hr1 : r = -1
  rotate_left
  · rw [if_neg hr1] at hr ⊢
    exact ⟨0, V1, W1, rfl, hr, Or.inl rfl, t1, k1, fun q => absurd q (by decide)⟩
  rw [if_pos hr1] at hr ⊢
  have q3 : pm_up V1 70 (V sc 0).toNat (V1 3 3) 3 = V1 3 := by simp [pm_up, pm_up_f]
  obtain ⟨V2, W2, c3, r3, c4, r4, t2, k2, p2⟩ := sm_nx (V := pm_up V1 70 (V sc 0).toNat (V1 3 3)) (W := W1) (t1.up (by simp [pm_up, pm_up_f]) (by simp [pm_up, pm_up_f]) rfl rfl) (k1.up (by simp [pm_up, pm_up_f]) q3 rfl rfl rfl rfl)
  rw [q3] at p2
  rw [r3] at hr
  rw [c3]
  simp only [] at hr ⊢
  rcases sm_number (a := 0) (b := 99) t2 k2 (by decide) with ⟨m1, m2⟩ | ⟨v, V3, W3, v1, v2, v3, m1, m2, m3, m4, m5, m6, m7, t3, k3⟩
  · rw [m2] at hr
    rw [m1]
    simp only [] at hr ⊢
    rw [if_neg (by decide)] at hr ⊢
    exact ⟨0, V2, W2, rfl, hr, Or.inl rfl, t2, k2, fun q => absurd q (by decide)⟩
  rw [m3] at hr
  rw [m1]
  simp only [] at hr ⊢
  rw [if_pos (show ¬ ((1 : Int) = 0) by decide)] at hr ⊢
  rw [m2]
  simp only []
  rw [v3]
  rw [m4] at hr
  have g3 : tk_g9 W2 W3 := ⟨m6, m7⟩
  -- the rows up to here
  have hc31 : ∀ k, k ≠ 3 → k ≠ 70 → V3 k = V1 k := fun k a b => by rw [m5 k a, c4 k a, pm_up_f b]
  have e70 : V3 70 = pm_up V1 70 (V sc 0).toNat (V1 3 3) 70 := by rw [m5 70 (by decide), c4 70 (by decide)]
  have g31 : tk_g9 W1 W3 := r4.g.tr g3
  have eV : ∀ k, k ≠ 3 → V1 k = V k := c2
  have esc : V3 sc = V sc := by rw [hc31 sc (by exact ow_66e_9 hsc) (by exact ow_66e_10 hsc), eV sc (by exact ow_66e_9 hsc)]
  have e0 : V3 sc 0 = V sc 0 := by rw [esc]
  have e93 : W3 93 = W 93 := by rw [g31.1 93 (by decide), r2.1 93 (by decide)]
  have e6 : W3 90 6 = W 90 6 := by rw [g31.2 6 (by decide) (by decide) (by decide) (by decide) (by decide), r2.2 6 (by decide) (by decide) (by decide) (by decide)]
  have ex1 : V3 (sc + 1) = V (sc + 1) := by rw [hc31 _ (by exact ow_66e_11 hsc) (by exact ow_66e_12 hsc), eV _ (by exact ow_66e_11 hsc)]
  have ex2 : V3 (sc + 2) = V (sc + 2) := by rw [hc31 _ (by exact ow_66e_13 hsc) (by exact ow_66e_14 hsc), eV _ (by exact ow_66e_13 hsc)]
  have f3' := k3.ln
  obtain ⟨B, hB, hr⟩ := pf_loop hr
  have hBx : ∀ x : Int, _ := fun x => congrFun hB x
  simp only [pm_cmp_eq0] at hBx
  rcases sm_number (a := 0) (b := 99) t3 k3 (by decide) with ⟨u1, u2⟩ | ⟨w, V4, W4, w1, w2, w3, u1, u2, u3, u4, u5, u6, u7, t4, k4⟩
  · -- the second number can't be
    rw [u1]
    simp only []
    first | rw [if_pos rfl] | rw [if_pos trivial]
    have hres : F_X12_soundLine W = (0, W3) := by
      rw [hr]
      refine pf_val_ind2 (fun (x : Int) => 0 ≤ x ∧ x ≤ W 90 6) (fun (o : Int × pm_M) => o = (0, W3)) (fun x => (W 90 6 - x).toNat) ?_ 0 ⟨Int.le_refl _, by omega⟩
      rintro x ⟨x1, x2⟩
      rw [hBx x, u2]
      simp only []
      by_cases z1 : W 90 6 ≤ x
      · rw [if_pos z1]
        first
          | rw [if_neg (show ¬ ¬ ((0 : Int) = 0) from fun q => q rfl)]
          | rw [if_neg (show ¬ ¬ True from fun q => q trivial)]
        exact Or.inr ⟨_, rfl, rfl⟩
      · rw [if_neg z1]
        have nx : (0 ≤ x + 1 ∧ x + 1 ≤ W 90 6) ∧ (W 90 6 - (x + 1)).toNat < (W 90 6 - x).toNat := ⟨⟨by exact ow_66e_1 x1, by exact ow_66e_2 z1⟩, by exact ow_66e_3 z1⟩
        repeat' split
        all_goals first
          | exact Or.inl ⟨_, rfl, nx⟩
          | exact Or.inr ⟨_, rfl, rfl⟩
    exact ⟨0, V3, W3, rfl, hres, Or.inl rfl, t3, k3, fun q => absurd q (by decide)⟩
  · rw [u1]
    simp only []
    rw [if_neg (by decide), w3]
    obtain ⟨z, z1, z2⟩ := c_taken (sc := sc) (V := V3) (a := v) (b := w) (by omega)
    rw [z1]
    simp only []
    have hk2 : W3 90 3 = 2 := by
      by_cases q : W3 90 3 = 2
      · exact q
      · exfalso
        rw [F_X12_number_eq] at u3
        simp only [pf_let] at u3
        rw [if_pos q] at u3
        exact absurd (Prod.mk.inj u3).1 (by decide)
    have hw : W3 90 5 = w := by
      have := k3.flat.2.2.2.1 (k3.flat.2.2.1.mpr hk2)
      omega
    have hrow : ∀ j : Nat, (j : Int) < W 90 6 → (W3 93 (3 * (j : Int)).toNat = v ∧ W3 93 (3 * (j : Int) + 1).toNat = w ↔ V3 (sc + 1) j = v ∧ V3 (sc + 2) j = w) := by
      intro j hj
      have := hm.2.2.2 j (by exact ow_66e_15 hm1 hj)
      rw [show (3 * (j : Int)).toNat = 3 * j by exact ow_66e_16, show (3 * (j : Int) + 1).toNat = 3 * j + 1 by exact ow_66e_17, e93, ex1, ex2, this.2.1, this.2.2.1]
    rcases z2 with ⟨z2, z3⟩ | ⟨z2, z3⟩
    · -- not taken: the sound is told
      subst z2
      rw [if_pos rfl]
      -- the class
      have hq3 : pm_up (pm_up (pm_up (pm_up (pm_up V3 (sc + 1) (V sc 0).toNat v) (sc + 2) (V sc 0).toNat w) (sc + 3) (V sc 0).toNat 1) 71 (V sc 0).toNat 0) sc 0 (V sc 0 + 1) 3 = V3 3 := by rcases hsc with rfl | rfl <;> simp [pm_up, pm_up_f]
      obtain ⟨Z1, d1, d3, d5, d6, d7⟩ := sm_num2 (Vm := pm_up (pm_up (pm_up (pm_up (pm_up V3 (sc + 1) (V sc 0).toNat v) (sc + 2) (V sc 0).toNat w) (sc + 3) (V sc 0).toNat 1) 71 (V sc 0).toNat 0) sc 0 (V sc 0 + 1)) t3 k3 u3 (by rcases hsc with rfl | rfl <;> simp [pm_up, pm_up_f]) (by rcases hsc with rfl | rfl <;> simp [pm_up, pm_up_f]) hq3
      rw [d1]
      simp only []
      obtain ⟨W5, hW5⟩ : ∃ X, X = pm_up (pm_up (pm_up (pm_up (pm_up (pm_up W4 92 (W 90 6).toNat (W1 90 5)) 93 (3 * W 90 6).toNat v) 93 (3 * W 90 6 + 1).toNat w) 93 (3 * W 90 6 + 2).toNat 1) 94 (W 90 6).toNat 0) 90 6 (W 90 6 + 1) := ⟨_, rfl⟩
      obtain ⟨y, V6, W6, c5, r5, y5, g5, h5, t5, k5, p5⟩ := sl_closes (sc := sc) (V := Z1) (W := W5) (d5.up rfl rfl (by rw [hW5]; simp [pm_up, pm_up_f]) (by rw [hW5]; simp [pm_up, pm_up_f])) (d6.up rfl rfl (by rw [hW5]; simp [pm_up, pm_up_f]) (by rw [hW5]; simp [pm_up, pm_up_f]) (by rw [hW5]; simp [pm_up, pm_up_f]) (by rw [hW5]; simp [pm_up, pm_up_f]))
      rw [c5]
      have hres : F_X12_soundLine W = (y, W6) := by
        rw [hr]
        refine pf_val_ind2 (fun (x : Int) => 0 ≤ x ∧ x ≤ W 90 6) (fun (o : Int × pm_M) => o = (y, W6)) (fun x => (W 90 6 - x).toNat) ?_ 0 ⟨Int.le_refl _, by omega⟩
        rintro x ⟨x1, x2⟩
        rw [hBx x, u3]
        simp only []
        by_cases q1 : W 90 6 ≤ x
        · rw [if_pos q1, if_pos (show ¬ ((1 : Int) = 0) by decide), u4, ← hW5, r5]
          exact Or.inr ⟨_, rfl, rfl⟩
        · rw [if_neg q1, if_neg (fun q => q hk2)]
          have nx : (0 ≤ x + 1 ∧ x + 1 ≤ W 90 6) ∧ (W 90 6 - (x + 1)).toNat < (W 90 6 - x).toNat := ⟨⟨by exact ow_66e_1 x1, by exact ow_66e_2 q1⟩, by exact ow_66e_3 q1⟩
          by_cases q2 : W3 93 (3 * x).toNat = v
          · rw [if_neg (fun q => q q2)]
            by_cases q4 : W3 93 (3 * x + 1).toNat = W3 90 5
            · exfalso
              have hh := (hrow x.toNat (by exact ow_66e_18 x1 q1 nx)).mp ⟨by rw [Int.toNat_of_nonneg x1]; exact q2, by rw [Int.toNat_of_nonneg x1, q4, hw]⟩
              exact z3 x.toNat (by exact ow_66e_19 hm1 e0 x1 q1 nx) hh
            · rw [if_pos q4]
              exact Or.inl ⟨_, rfl, nx⟩
          · rw [if_pos q2]
            exact Or.inl ⟨_, rfl, nx⟩
      have f1' := k1.ln
      have f2' := k2.ln
      have pz : V2 3 4 ≤ V3 3 2 := by
        obtain ⟨Z0, za, -, -, -, zp⟩ := sm_num2 (Vm := V2) t2 k2 m3 rfl rfl rfl
        rw [m2] at za
        rw [(Prod.mk.inj za).2]
        exact zp
      refine ⟨y, V6, W6, rfl, hres, y5, t5, k5, fun _ => ⟨sm_S.st (V := Z1) (W := W5) hsc ?_ (fun k a _ => g5 k a) (by rw [g5 69 (by decide)]) h5, by exact ow_66e_20 p1 p2 f3' d7 p5 f1' f2' pz⟩⟩
      have s3 : sm_S2 sc V3 W4 ∧ sm_S3 sc V3 W4 ∧ sm_S4 sc V3 W4 ∧ sm_S5 sc V3 W4 := by
        have gg : tk_g9 W1 W4 := g31.tr ⟨u6, u7⟩
        obtain ⟨-, s32, s33, s34, s35⟩ := s1
        have a69 : V3 69 = V1 69 := hc31 69 (by decide) (by decide)
        have asc : V3 sc = V1 sc := hc31 sc (by exact ow_66e_9 hsc) (by exact ow_66e_10 hsc)
        have a4 : V3 (sc + 4) = V1 (sc + 4) := hc31 _ (by exact ow_66e_21) (by exact ow_66e_22 hsc)
        have a5 : V3 (sc + 5) = V1 (sc + 5) := hc31 _ (by exact ow_66e_23) (by exact ow_66e_24 hsc)
        unfold sm_S2 sm_S3 sm_S4 sm_S5
        rw [asc, a69, a4, a5, gg.1 95 (by decide), gg.1 96 (by decide), gg.2 11 (by decide) (by decide) (by decide) (by decide) (by decide), gg.2 12 (by decide) (by decide) (by decide) (by decide) (by decide), gg.2 13 (by decide) (by decide) (by decide) (by decide) (by decide)]
        exact ⟨s32, s33, s34, s35⟩
      obtain ⟨s32, s33, s34, s35⟩ := s3
      have hz := d3
      have b95 : W5 95 = W4 95 := by rw [hW5]; simp [pm_up, pm_up_f]
      have b96 : W5 96 = W4 96 := by rw [hW5]; simp [pm_up, pm_up_f]
      have b11 : W5 90 11 = W4 90 11 := by rw [hW5]; simp [pm_up, pm_up_f]
      have b12 : W5 90 12 = W4 90 12 := by rw [hW5]; simp [pm_up, pm_up_f]
      have b13 : W5 90 13 = W4 90 13 := by rw [hW5]; simp [pm_up, pm_up_f]
      have g41 : tk_g9 W W4 := (r2.g.tr g31).tr ⟨u6, u7⟩
      refine ⟨?_, ?_, ?_, ?_, ?_⟩
      · have m0 := hm.2
        unfold sm_S1
        rw [hz sc (by exact ow_66e_9 hsc), hz (sc + 1) (by exact ow_66e_11 hsc), hz (sc + 2) (by exact ow_66e_13 hsc), hz (sc + 3) (by exact ow_66e_25 hsc), hz 70 (by decide), hz 71 (by decide)]
        have z0 : pm_up (pm_up (pm_up (pm_up (pm_up V3 (sc + 1) (V sc 0).toNat v) (sc + 2) (V sc 0).toNat w) (sc + 3) (V sc 0).toNat 1) 71 (V sc 0).toNat 0) sc 0 (V sc 0 + 1) sc 0 = V sc 0 + 1 := pm_up_s
        have a1 : ∀ j, pm_up (pm_up (pm_up (pm_up (pm_up V3 (sc + 1) (V sc 0).toNat v) (sc + 2) (V sc 0).toNat w) (sc + 3) (V sc 0).toNat 1) 71 (V sc 0).toNat 0) sc 0 (V sc 0 + 1) (sc + 1) j = if j = (V sc 0).toNat then v else V3 (sc + 1) j := fun j => by rcases hsc with rfl | rfl <;> simp [pm_up, pm_up_f]
        have a2 : ∀ j, pm_up (pm_up (pm_up (pm_up (pm_up V3 (sc + 1) (V sc 0).toNat v) (sc + 2) (V sc 0).toNat w) (sc + 3) (V sc 0).toNat 1) 71 (V sc 0).toNat 0) sc 0 (V sc 0 + 1) (sc + 2) j = if j = (V sc 0).toNat then w else V3 (sc + 2) j := fun j => by rcases hsc with rfl | rfl <;> simp [pm_up, pm_up_f]
        have a3 : ∀ j, pm_up (pm_up (pm_up (pm_up (pm_up V3 (sc + 1) (V sc 0).toNat v) (sc + 2) (V sc 0).toNat w) (sc + 3) (V sc 0).toNat 1) 71 (V sc 0).toNat 0) sc 0 (V sc 0 + 1) (sc + 3) j = if j = (V sc 0).toNat then 1 else V3 (sc + 3) j := fun j => by rcases hsc with rfl | rfl <;> simp [pm_up, pm_up_f]
        have a71 : ∀ j, pm_up (pm_up (pm_up (pm_up (pm_up V3 (sc + 1) (V sc 0).toNat v) (sc + 2) (V sc 0).toNat w) (sc + 3) (V sc 0).toNat 1) 71 (V sc 0).toNat 0) sc 0 (V sc 0 + 1) 71 j = if j = (V sc 0).toNat then 0 else V3 71 j := fun j => by rcases hsc with rfl | rfl <;> simp [pm_up, pm_up_f]
        have a70 : ∀ j, pm_up (pm_up (pm_up (pm_up (pm_up V3 (sc + 1) (V sc 0).toNat v) (sc + 2) (V sc 0).toNat w) (sc + 3) (V sc 0).toNat 1) 71 (V sc 0).toNat 0) sc 0 (V sc 0 + 1) 70 j = if j = (V sc 0).toNat then V1 3 3 else V 70 j := fun j => by
          have q1 : pm_up (pm_up (pm_up (pm_up (pm_up V3 (sc + 1) (V sc 0).toNat v) (sc + 2) (V sc 0).toNat w) (sc + 3) (V sc 0).toNat 1) 71 (V sc 0).toNat 0) sc 0 (V sc 0 + 1) 70 = V3 70 := by rcases hsc with rfl | rfl <;> simp [pm_up, pm_up_f]
          rw [q1, e70]
          have q2 := eV 70 (by decide)
          simp [pm_up, pm_up_f, q2]
        have b6 : W5 90 6 = W 90 6 + 1 := by rw [hW5]; exact pm_up_s
        have n1 : (3 * W 90 6).toNat = 3 * (W 90 6).toNat := by exact ow_66e_26
        have n2 : (3 * W 90 6 + 1).toNat = 3 * (W 90 6).toNat + 1 := by omega
        have n3 : (3 * W 90 6 + 2).toNat = 3 * (W 90 6).toNat + 2 := by exact ow_66e_27 n1 n2
        have b92 : ∀ j, W5 92 j = if j = (W 90 6).toNat then W1 90 5 else W 92 j := fun j => by rw [hW5]; simp [pm_up, g41.1 92 (by decide)]
        have b94 : ∀ j, W5 94 j = if j = (W 90 6).toNat then 0 else W 94 j := fun j => by rw [hW5]; simp [pm_up, g41.1 94 (by decide)]
        have b93 : ∀ i, W5 93 i = if i = 3 * (W 90 6).toNat + 2 then 1 else if i = 3 * (W 90 6).toNat + 1 then w else if i = 3 * (W 90 6).toNat then v else W 93 i := fun i => by rw [hW5, n1, n2, n3]; simp [pm_up, g41.1 93 (by decide)]
        rw [z0, b6]
        refine ⟨by exact ow_66e_28 hm1, by exact ow_66e_29 hm1 n1 n2, by omega, fun j hj => ?_⟩
        rw [a1, a2, a3, a70, a71, b92, b94, b93, b93, b93]
        have ew : (W 90 6).toNat = (V sc 0).toNat := by exact ow_66e_30 hm1 n1 n3
        rw [ew]
        by_cases hq : j = (V sc 0).toNat
        · subst hq
          rw [if_pos rfl, if_pos rfl, if_pos rfl, if_pos rfl, if_pos rfl, if_pos rfl, if_pos rfl, if_neg (by exact ow_66e_31), if_neg (by exact ow_66e_32), if_pos rfl, if_neg (by exact ow_66e_33), if_pos rfl, if_pos rfl]
          exact ⟨hv, rfl, rfl, rfl, rfl, by decide, by decide, by decide, v1, v2, w1, w2⟩
        · rw [if_neg hq, if_neg hq, if_neg hq, if_neg hq, if_neg hq, if_neg hq, if_neg hq, if_neg (by exact ow_66e_34 hj), if_neg (by exact ow_66e_35 hj), if_neg (by exact ow_66e_36 hq), if_neg (by exact ow_66e_37 hj), if_neg (by exact ow_66e_38 hq), if_neg (by exact ow_66e_39 hq), if_neg (by exact ow_66e_40 hq), if_neg (by exact ow_66e_41 hq), if_neg (by exact ow_66e_42 hq)]
          have := hm.2.2.2 j (by exact ow_66e_43 hm1 n1 n2 hj ew hq)
          rw [ex1, ex2, hc31 (sc + 3) (by exact ow_66e_25 hsc) (by exact ow_66e_44 hsc), eV (sc + 3) (by exact ow_66e_25 hsc), hc31 71 (by decide) (by decide), eV 71 (by decide)]
          exact this
      · unfold sm_S2
        rw [hz sc (by exact ow_66e_9 hsc), b95]
        rcases hsc with rfl | rfl <;> simpa [sm_S2, pm_up, pm_up_f] using s32
      · unfold sm_S3
        rw [hz sc (by exact ow_66e_9 hsc), b95]
        rcases hsc with rfl | rfl <;> simpa [sm_S3, pm_up, pm_up_f] using s33
      · unfold sm_S4
        rw [hz sc (by exact ow_66e_9 hsc), hz 69 (by decide), b11, b12]
        rcases hsc with rfl | rfl <;> simpa [sm_S4, pm_up, pm_up_f] using s34
      · obtain ⟨p1, p2, p3, p4⟩ := s35
        unfold sm_S5
        rw [hz sc (by exact ow_66e_9 hsc), hz (sc + 4) (by exact ow_66e_21), hz (sc + 5) (by exact ow_66e_23), b13, b96]
        have zz : pm_up (pm_up (pm_up (pm_up (pm_up V3 (sc + 1) (V sc 0).toNat v) (sc + 2) (V sc 0).toNat w) (sc + 3) (V sc 0).toNat 1) 71 (V sc 0).toNat 0) sc 0 (V sc 0 + 1) sc 0 = V sc 0 + 1 := pm_up_s
        have z10 : pm_up (pm_up (pm_up (pm_up (pm_up V3 (sc + 1) (V sc 0).toNat v) (sc + 2) (V sc 0).toNat w) (sc + 3) (V sc 0).toNat 1) 71 (V sc 0).toNat 0) sc 0 (V sc 0 + 1) sc 10 = V3 sc 10 := by rcases hsc with rfl | rfl <;> simp [pm_up, pm_up_f]
        have z4 : pm_up (pm_up (pm_up (pm_up (pm_up V3 (sc + 1) (V sc 0).toNat v) (sc + 2) (V sc 0).toNat w) (sc + 3) (V sc 0).toNat 1) 71 (V sc 0).toNat 0) sc 0 (V sc 0 + 1) (sc + 4) = V3 (sc + 4) := by rcases hsc with rfl | rfl <;> simp [pm_up, pm_up_f]
        have z5 : pm_up (pm_up (pm_up (pm_up (pm_up V3 (sc + 1) (V sc 0).toNat v) (sc + 2) (V sc 0).toNat w) (sc + 3) (V sc 0).toNat 1) 71 (V sc 0).toNat 0) sc 0 (V sc 0 + 1) (sc + 5) = V3 (sc + 5) := by rcases hsc with rfl | rfl <;> simp [pm_up, pm_up_f]
        rw [zz, z10, z4, z5]
        refine ⟨p1, p2, p3, fun k hk => ?_⟩
        have := p4 k hk
        rw [e0] at this
        exact ⟨this.1, this.2.1, this.2.2.1, by exact ow_66e_45 this, this.2.2.2.2.1, by exact ow_66e_46 this, this.2.2.2.2.2.2.1, by exact ow_66e_47 this⟩
    · -- taken
      subst z2
      rw [if_neg (show ¬ ((1 : Int) = 0) by decide)]
      obtain ⟨j, j1, j2⟩ := z3
      have hres : F_X12_soundLine W = (0, W3) := by
        rw [hr]
        refine pf_val_ind2 (fun (x : Int) => 0 ≤ x ∧ x ≤ W 90 6 ∧ x ≤ j) (fun (o : Int × pm_M) => o = (0, W3)) (fun x => (W 90 6 - x).toNat) ?_ 0 ⟨Int.le_refl _, by exact ow_66e_48 hm1 e0 j1, by exact ow_66e_49⟩
        rintro x ⟨x1, x2, x3⟩
        rw [hBx x]
        have q1 : ¬ W 90 6 ≤ x := by exact ow_66e_50 hm1 e0 j1 x3
        rw [if_neg q1, if_neg (fun q => q hk2)]
        have nx : ¬ x = j → (0 ≤ x + 1 ∧ x + 1 ≤ W 90 6 ∧ x + 1 ≤ j) ∧ (W 90 6 - (x + 1)).toNat < (W 90 6 - x).toNat := fun hn => ⟨⟨by exact ow_66e_1 x1, by exact ow_66e_2 q1, by exact ow_66e_51 x3 hn⟩, by exact ow_66e_3 q1⟩
        by_cases q0 : x = j
        · have hh := (hrow j (by exact ow_66e_52 q1 q0)).mpr j2
          subst q0
          rw [if_neg (fun q => q hh.1), if_neg (fun q => q (by rw [hh.2, hw]))]
          exact Or.inr ⟨_, rfl, rfl⟩
        · by_cases q2 : W3 93 (3 * x).toNat = v
          · rw [if_neg (fun q => q q2)]
            by_cases q4 : W3 93 (3 * x + 1).toNat = W3 90 5
            · rw [if_neg (fun q => q q4)]
              exact Or.inr ⟨_, rfl, rfl⟩
            · rw [if_pos q4]
              exact Or.inl ⟨_, rfl, nx q0⟩
          · rw [if_pos q2]
            exact Or.inl ⟨_, rfl, nx q0⟩
      exact ⟨0, V3, W3, rfl, hres, Or.inl rfl, t3, k3, fun q => absurd q (by decide)⟩
